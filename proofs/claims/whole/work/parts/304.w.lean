theorem d_M_clauseOf_0 : decode c_M_clauseOf 0 = .ok (.aload_n 0, 1) ∧ 0 + 1 = 1 := by decide +kernel
theorem d_M_clauseOf_1 : decode c_M_clauseOf 1 = .ok (.getfield 345, 3) ∧ 1 + 3 = 4 := by decide +kernel
theorem d_M_clauseOf_4 : decode c_M_clauseOf 4 = .ok (.iconst 1, 1) ∧ 4 + 1 = 5 := by decide +kernel
theorem d_M_clauseOf_5 : decode c_M_clauseOf 5 = .ok (.isub, 1) ∧ 5 + 1 = 6 := by decide +kernel
theorem d_M_clauseOf_6 : decode c_M_clauseOf 6 = .ok (.istore 5, 2) ∧ 6 + 2 = 8 := by decide +kernel
theorem d_M_clauseOf_8 : decode c_M_clauseOf 8 = .ok (.iload 5, 2) ∧ 8 + 2 = 10 := by decide +kernel
theorem d_M_clauseOf_10 : decode c_M_clauseOf 10 = .ok (.ifCond .lt 139, 3) ∧ 10 + 3 = 13 ∧ ((10 : Nat) : Int) + 139 = ((149 : Nat) : Int) := by decide +kernel
theorem d_M_clauseOf_13 : decode c_M_clauseOf 13 = .ok (.aload_n 0, 1) ∧ 13 + 1 = 14 := by decide +kernel
theorem d_M_clauseOf_14 : decode c_M_clauseOf 14 = .ok (.getfield 68, 3) ∧ 14 + 3 = 17 := by decide +kernel
theorem d_M_clauseOf_17 : decode c_M_clauseOf 17 = .ok (.iload 5, 2) ∧ 17 + 2 = 19 := by decide +kernel
theorem d_M_clauseOf_19 : decode c_M_clauseOf 19 = .ok (.iaload, 1) ∧ 19 + 1 = 20 := by decide +kernel
theorem d_M_clauseOf_20 : decode c_M_clauseOf 20 = .ok (.iload_n 3, 1) ∧ 20 + 1 = 21 := by decide +kernel
theorem d_M_clauseOf_21 : decode c_M_clauseOf 21 = .ok (.if_icmp .ne 122, 3) ∧ 21 + 3 = 24 ∧ ((21 : Nat) : Int) + 122 = ((143 : Nat) : Int) := by decide +kernel
theorem d_M_clauseOf_24 : decode c_M_clauseOf 24 = .ok (.iload 4, 2) ∧ 24 + 2 = 26 := by decide +kernel
theorem d_M_clauseOf_26 : decode c_M_clauseOf 26 = .ok (.i2l, 1) ∧ 26 + 1 = 27 := by decide +kernel
theorem d_M_clauseOf_27 : decode c_M_clauseOf 27 = .ok (.aload_n 0, 1) ∧ 27 + 1 = 28 := by decide +kernel
theorem d_M_clauseOf_28 : decode c_M_clauseOf 28 = .ok (.getfield 71, 3) ∧ 28 + 3 = 31 := by decide +kernel
theorem d_M_clauseOf_31 : decode c_M_clauseOf 31 = .ok (.iload 5, 2) ∧ 31 + 2 = 33 := by decide +kernel
theorem d_M_clauseOf_33 : decode c_M_clauseOf 33 = .ok (.iaload, 1) ∧ 33 + 1 = 34 := by decide +kernel
theorem d_M_clauseOf_34 : decode c_M_clauseOf 34 = .ok (.i2l, 1) ∧ 34 + 1 = 35 := by decide +kernel
theorem d_M_clauseOf_35 : decode c_M_clauseOf 35 = .ok (.aload_n 0, 1) ∧ 35 + 1 = 36 := by decide +kernel
theorem d_M_clauseOf_36 : decode c_M_clauseOf 36 = .ok (.getfield 74, 3) ∧ 36 + 3 = 39 := by decide +kernel
theorem d_M_clauseOf_39 : decode c_M_clauseOf 39 = .ok (.iload 5, 2) ∧ 39 + 2 = 41 := by decide +kernel
theorem d_M_clauseOf_41 : decode c_M_clauseOf 41 = .ok (.iaload, 1) ∧ 41 + 1 = 42 := by decide +kernel
theorem d_M_clauseOf_42 : decode c_M_clauseOf 42 = .ok (.i2l, 1) ∧ 42 + 1 = 43 := by decide +kernel
theorem d_M_clauseOf_43 : decode c_M_clauseOf 43 = .ok (.invokestatic 201, 3) ∧ 43 + 3 = 46 := by decide +kernel
theorem d_M_clauseOf_46 : decode c_M_clauseOf 46 = .ok (.ifCond .eq 97, 3) ∧ 46 + 3 = 49 ∧ ((46 : Nat) : Int) + 97 = ((143 : Nat) : Int) := by decide +kernel
theorem d_M_clauseOf_49 : decode c_M_clauseOf 49 = .ok (.bipush 6, 2) ∧ 49 + 2 = 51 := by decide +kernel
theorem d_M_clauseOf_51 : decode c_M_clauseOf 51 = .ok (.iload 5, 2) ∧ 51 + 2 = 53 := by decide +kernel
theorem d_M_clauseOf_53 : decode c_M_clauseOf 53 = .ok (.imul, 1) ∧ 53 + 1 = 54 := by decide +kernel
theorem d_M_clauseOf_54 : decode c_M_clauseOf 54 = .ok (.aload_n 0, 1) ∧ 54 + 1 = 55 := by decide +kernel
theorem d_M_clauseOf_55 : decode c_M_clauseOf 55 = .ok (.getfield 77, 3) ∧ 55 + 3 = 58 := by decide +kernel
theorem d_M_clauseOf_58 : decode c_M_clauseOf 58 = .ok (.iload 5, 2) ∧ 58 + 2 = 60 := by decide +kernel
theorem d_M_clauseOf_60 : decode c_M_clauseOf 60 = .ok (.iaload, 1) ∧ 60 + 1 = 61 := by decide +kernel
theorem d_M_clauseOf_61 : decode c_M_clauseOf 61 = .ok (.iadd, 1) ∧ 61 + 1 = 62 := by decide +kernel
theorem d_M_clauseOf_62 : decode c_M_clauseOf 62 = .ok (.iconst 1, 1) ∧ 62 + 1 = 63 := by decide +kernel
theorem d_M_clauseOf_63 : decode c_M_clauseOf 63 = .ok (.isub, 1) ∧ 63 + 1 = 64 := by decide +kernel
theorem d_M_clauseOf_64 : decode c_M_clauseOf 64 = .ok (.istore 6, 2) ∧ 64 + 2 = 66 := by decide +kernel
theorem d_M_clauseOf_66 : decode c_M_clauseOf 66 = .ok (.iload 6, 2) ∧ 66 + 2 = 68 := by decide +kernel
theorem d_M_clauseOf_68 : decode c_M_clauseOf 68 = .ok (.bipush 6, 2) ∧ 68 + 2 = 70 := by decide +kernel
theorem d_M_clauseOf_70 : decode c_M_clauseOf 70 = .ok (.iload 5, 2) ∧ 70 + 2 = 72 := by decide +kernel
theorem d_M_clauseOf_72 : decode c_M_clauseOf 72 = .ok (.imul, 1) ∧ 72 + 1 = 73 := by decide +kernel
theorem d_M_clauseOf_73 : decode c_M_clauseOf 73 = .ok (.if_icmp .lt 70, 3) ∧ 73 + 3 = 76 ∧ ((73 : Nat) : Int) + 70 = ((143 : Nat) : Int) := by decide +kernel
theorem d_M_clauseOf_76 : decode c_M_clauseOf 76 = .ok (.iload_n 1, 1) ∧ 76 + 1 = 77 := by decide +kernel
theorem d_M_clauseOf_77 : decode c_M_clauseOf 77 = .ok (.iconst 4, 1) ∧ 77 + 1 = 78 := by decide +kernel
theorem d_M_clauseOf_78 : decode c_M_clauseOf 78 = .ok (.if_icmp .ge 22, 3) ∧ 78 + 3 = 81 ∧ ((78 : Nat) : Int) + 22 = ((100 : Nat) : Int) := by decide +kernel
theorem d_M_clauseOf_81 : decode c_M_clauseOf 81 = .ok (.aload_n 0, 1) ∧ 81 + 1 = 82 := by decide +kernel
theorem d_M_clauseOf_82 : decode c_M_clauseOf 82 = .ok (.getfield 80, 3) ∧ 82 + 3 = 85 := by decide +kernel
theorem d_M_clauseOf_85 : decode c_M_clauseOf 85 = .ok (.iload 6, 2) ∧ 85 + 2 = 87 := by decide +kernel
theorem d_M_clauseOf_87 : decode c_M_clauseOf 87 = .ok (.iaload, 1) ∧ 87 + 1 = 88 := by decide +kernel
theorem d_M_clauseOf_88 : decode c_M_clauseOf 88 = .ok (.iload_n 1, 1) ∧ 88 + 1 = 89 := by decide +kernel
theorem d_M_clauseOf_89 : decode c_M_clauseOf 89 = .ok (.if_icmp .ne 7, 3) ∧ 89 + 3 = 92 ∧ ((89 : Nat) : Int) + 7 = ((96 : Nat) : Int) := by decide +kernel
theorem d_M_clauseOf_92 : decode c_M_clauseOf 92 = .ok (.iconst 1, 1) ∧ 92 + 1 = 93 := by decide +kernel
theorem d_M_clauseOf_93 : decode c_M_clauseOf 93 = .ok (.goto 34, 3) ∧ (93 : Int) + 34 = (127 : Int) := by decide +kernel
theorem d_M_clauseOf_96 : decode c_M_clauseOf 96 = .ok (.iconst 0, 1) ∧ 96 + 1 = 97 := by decide +kernel
theorem d_M_clauseOf_97 : decode c_M_clauseOf 97 = .ok (.goto 30, 3) ∧ (97 : Int) + 30 = (127 : Int) := by decide +kernel
theorem d_M_clauseOf_100 : decode c_M_clauseOf 100 = .ok (.aload_n 0, 1) ∧ 100 + 1 = 101 := by decide +kernel
theorem d_M_clauseOf_101 : decode c_M_clauseOf 101 = .ok (.getfield 80, 3) ∧ 101 + 3 = 104 := by decide +kernel
theorem d_M_clauseOf_104 : decode c_M_clauseOf 104 = .ok (.iload 6, 2) ∧ 104 + 2 = 106 := by decide +kernel
theorem d_M_clauseOf_106 : decode c_M_clauseOf 106 = .ok (.iaload, 1) ∧ 106 + 1 = 107 := by decide +kernel
theorem d_M_clauseOf_107 : decode c_M_clauseOf 107 = .ok (.iconst 3, 1) ∧ 107 + 1 = 108 := by decide +kernel
theorem d_M_clauseOf_108 : decode c_M_clauseOf 108 = .ok (.if_icmp .le 18, 3) ∧ 108 + 3 = 111 ∧ ((108 : Nat) : Int) + 18 = ((126 : Nat) : Int) := by decide +kernel
theorem d_M_clauseOf_111 : decode c_M_clauseOf 111 = .ok (.aload_n 0, 1) ∧ 111 + 1 = 112 := by decide +kernel
theorem d_M_clauseOf_112 : decode c_M_clauseOf 112 = .ok (.getfield 83, 3) ∧ 112 + 3 = 115 := by decide +kernel
theorem d_M_clauseOf_115 : decode c_M_clauseOf 115 = .ok (.iload 6, 2) ∧ 115 + 2 = 117 := by decide +kernel
theorem d_M_clauseOf_117 : decode c_M_clauseOf 117 = .ok (.iaload, 1) ∧ 117 + 1 = 118 := by decide +kernel
theorem d_M_clauseOf_118 : decode c_M_clauseOf 118 = .ok (.iload_n 2, 1) ∧ 118 + 1 = 119 := by decide +kernel
theorem d_M_clauseOf_119 : decode c_M_clauseOf 119 = .ok (.if_icmp .ne 7, 3) ∧ 119 + 3 = 122 ∧ ((119 : Nat) : Int) + 7 = ((126 : Nat) : Int) := by decide +kernel
theorem d_M_clauseOf_122 : decode c_M_clauseOf 122 = .ok (.iconst 1, 1) ∧ 122 + 1 = 123 := by decide +kernel
theorem d_M_clauseOf_123 : decode c_M_clauseOf 123 = .ok (.goto 4, 3) ∧ (123 : Int) + 4 = (127 : Int) := by decide +kernel
theorem d_M_clauseOf_126 : decode c_M_clauseOf 126 = .ok (.iconst 0, 1) ∧ 126 + 1 = 127 := by decide +kernel
theorem d_M_clauseOf_127 : decode c_M_clauseOf 127 = .ok (.istore 7, 2) ∧ 127 + 2 = 129 := by decide +kernel
theorem d_M_clauseOf_129 : decode c_M_clauseOf 129 = .ok (.iload 7, 2) ∧ 129 + 2 = 131 := by decide +kernel
theorem d_M_clauseOf_131 : decode c_M_clauseOf 131 = .ok (.ifCond .eq 6, 3) ∧ 131 + 3 = 134 ∧ ((131 : Nat) : Int) + 6 = ((137 : Nat) : Int) := by decide +kernel
theorem d_M_clauseOf_134 : decode c_M_clauseOf 134 = .ok (.iload 6, 2) ∧ 134 + 2 = 136 := by decide +kernel
theorem d_M_clauseOf_136 : decode c_M_clauseOf 136 = .ok (.ireturn, 1) ∧ 136 + 1 = 137 := by decide +kernel
theorem d_M_clauseOf_137 : decode c_M_clauseOf 137 = .ok (.iinc 6 (-1), 3) ∧ 137 + 3 = 140 := by decide +kernel
theorem d_M_clauseOf_140 : decode c_M_clauseOf 140 = .ok (.goto (-74), 3) ∧ (140 : Int) + (-74) = (66 : Int) := by decide +kernel
theorem d_M_clauseOf_143 : decode c_M_clauseOf 143 = .ok (.iinc 5 (-1), 3) ∧ 143 + 3 = 146 := by decide +kernel
theorem d_M_clauseOf_146 : decode c_M_clauseOf 146 = .ok (.goto (-138), 3) ∧ (146 : Int) + (-138) = (8 : Int) := by decide +kernel
theorem d_M_clauseOf_149 : decode c_M_clauseOf 149 = .ok (.bipush (-9), 2) ∧ 149 + 2 = 151 := by decide +kernel
theorem d_M_clauseOf_151 : decode c_M_clauseOf 151 = .ok (.ireturn, 1) ∧ 151 + 1 = 152 := by decide +kernel
set_option maxHeartbeats 4000000 in
theorem w_M_clauseOf_L66 {Z : Sy} {Γ : Nat → List (Nat × Value) → List Value → St → Prop} {res : Int32} {x1 : Int32} {x2 : Int32} {x3 : Int32} {x4 : Int32} {x5 : Int32} {σ : St} {k8 : Int32 → Option Int32} (h : IsG YM Z R_M c_M_clauseOf 8 2 (some .int) (some (.int res)) σ Γ) (hk8 : ∀ (x5 : Int32), k8 x5 = some res → Γ 8 [(0, .ref (ya Z 0)), (1, .int x1), (2, .int x2), (3, .int x3), (4, .int x4), (5, .int x5)] [] σ) : ∀ (n : Nat) (x6 : Int32), M_clauseOf_L66 x1 x2 x3 x4 x5 σ k8 n x6 = some res → Γ 66 [(0, .ref (ya Z 0)), (1, .int x1), (2, .int x2), (3, .int x3), (4, .int x4), (5, .int x5), (6, .int x6)] [] σ := by
  intro n
  induction n with
  | zero => intro x6 hf; exact absurd hf (by simp [M_clauseOf_L66])
  | succ n ih =>
    intro x6 hf
    rw [M_clauseOf_L66] at hf
    refine r_iload h d_M_clauseOf_66 6 rfl ?_
    refine r_bipush h d_M_clauseOf_68 kb_6 ?_
    refine r_iload h d_M_clauseOf_70 5 rfl ?_
    refine r_imul h d_M_clauseOf_72 ?_
    refine r_icmp_lt h d_M_clauseOf_73 hf (fun hf => ?_) (fun hf => ?_)
    · refine r_iinc (ls' := [(5, .int (x5 + (-1 : Int32))), (0, .ref (ya Z 0)), (1, .int x1), (2, .int x2), (3, .int x3), (4, .int x4), (6, .int x6)]) h d_M_clauseOf_143 5 rfl ki_m1 (by decide) rfl ?_
      refine r_goto h d_M_clauseOf_146 ?_
      refine r_sub h [1, 2, 3, 4, 5, 0] rfl ?_
      exact hk8 _ hf
    · refine r_iload_n h d_M_clauseOf_76 1 rfl rfl ?_
      refine r_iconst h d_M_clauseOf_77 ki_4 ?_
      refine r_icmp_ge h d_M_clauseOf_78 hf (fun hf => ?_) (fun hf => ?_)
      · refine r_aload_n h d_M_clauseOf_100 0 rfl rfl ?_
        refine r_getR h fd_YM_0_31 cf_M fl_M_80 d_M_clauseOf_101 ?_
        refine r_iload h d_M_clauseOf_104 6 rfl ?_
        refine r_iald h sh_YM_24 d_M_clauseOf_106 hf (fun hf => ?_)
        refine r_iconst h d_M_clauseOf_107 ki_3 ?_
        refine r_icmp_le h d_M_clauseOf_108 hf (fun hf => ?_) (fun hf => ?_)
        · refine r_iconst h d_M_clauseOf_126 ki_0 ?_
          refine r_istore (ls' := [(7, .int (0 : Int32)), (0, .ref (ya Z 0)), (1, .int x1), (2, .int x2), (3, .int x3), (4, .int x4), (5, .int x5), (6, .int x6)]) h d_M_clauseOf_127 (by decide) rfl ?_
          refine r_iload h d_M_clauseOf_129 0 rfl ?_
          refine r_if_eq_T h d_M_clauseOf_131 (by decide) ?_
          refine r_iinc (ls' := [(6, .int (x6 + (-1 : Int32))), (7, .int (0 : Int32)), (0, .ref (ya Z 0)), (1, .int x1), (2, .int x2), (3, .int x3), (4, .int x4), (5, .int x5)]) h d_M_clauseOf_137 7 rfl ki_m1 (by decide) rfl ?_
          refine r_goto h d_M_clauseOf_140 ?_
          refine r_sub h [2, 3, 4, 5, 6, 7, 0] rfl ?_
          exact ih _ hf
        · refine r_aload_n h d_M_clauseOf_111 0 rfl rfl ?_
          refine r_getR h fd_YM_0_32 cf_M fl_M_83 d_M_clauseOf_112 ?_
          refine r_iload h d_M_clauseOf_115 6 rfl ?_
          refine r_iald h sh_YM_25 d_M_clauseOf_117 hf (fun hf => ?_)
          refine r_iload_n h d_M_clauseOf_118 2 rfl rfl ?_
          refine r_icmp_ne h d_M_clauseOf_119 hf (fun hf => ?_) (fun hf => ?_)
          · refine r_iconst h d_M_clauseOf_126 ki_0 ?_
            refine r_istore (ls' := [(7, .int (0 : Int32)), (0, .ref (ya Z 0)), (1, .int x1), (2, .int x2), (3, .int x3), (4, .int x4), (5, .int x5), (6, .int x6)]) h d_M_clauseOf_127 (by decide) rfl ?_
            refine r_iload h d_M_clauseOf_129 0 rfl ?_
            refine r_if_eq_T h d_M_clauseOf_131 (by decide) ?_
            refine r_iinc (ls' := [(6, .int (x6 + (-1 : Int32))), (7, .int (0 : Int32)), (0, .ref (ya Z 0)), (1, .int x1), (2, .int x2), (3, .int x3), (4, .int x4), (5, .int x5)]) h d_M_clauseOf_137 7 rfl ki_m1 (by decide) rfl ?_
            refine r_goto h d_M_clauseOf_140 ?_
            refine r_sub h [2, 3, 4, 5, 6, 7, 0] rfl ?_
            exact ih _ hf
          · refine r_iconst h d_M_clauseOf_122 ki_1 ?_
            refine r_goto h d_M_clauseOf_123 ?_
            refine r_istore (ls' := [(7, .int (1 : Int32)), (0, .ref (ya Z 0)), (1, .int x1), (2, .int x2), (3, .int x3), (4, .int x4), (5, .int x5), (6, .int x6)]) h d_M_clauseOf_127 (by decide) rfl ?_
            refine r_iload h d_M_clauseOf_129 0 rfl ?_
            refine r_if_eq_F h d_M_clauseOf_131 (by decide) ?_
            refine r_iload h d_M_clauseOf_134 7 rfl ?_
            exact r_ireturn h d_M_clauseOf_136.1 (Option.some.inj hf) rfl
      · refine r_aload_n h d_M_clauseOf_81 0 rfl rfl ?_
        refine r_getR h fd_YM_0_31 cf_M fl_M_80 d_M_clauseOf_82 ?_
        refine r_iload h d_M_clauseOf_85 6 rfl ?_
        refine r_iald h sh_YM_24 d_M_clauseOf_87 hf (fun hf => ?_)
        refine r_iload_n h d_M_clauseOf_88 1 rfl rfl ?_
        refine r_icmp_ne h d_M_clauseOf_89 hf (fun hf => ?_) (fun hf => ?_)
        · refine r_iconst h d_M_clauseOf_96 ki_0 ?_
          refine r_goto h d_M_clauseOf_97 ?_
          refine r_istore (ls' := [(7, .int (0 : Int32)), (0, .ref (ya Z 0)), (1, .int x1), (2, .int x2), (3, .int x3), (4, .int x4), (5, .int x5), (6, .int x6)]) h d_M_clauseOf_127 (by decide) rfl ?_
          refine r_iload h d_M_clauseOf_129 0 rfl ?_
          refine r_if_eq_T h d_M_clauseOf_131 (by decide) ?_
          refine r_iinc (ls' := [(6, .int (x6 + (-1 : Int32))), (7, .int (0 : Int32)), (0, .ref (ya Z 0)), (1, .int x1), (2, .int x2), (3, .int x3), (4, .int x4), (5, .int x5)]) h d_M_clauseOf_137 7 rfl ki_m1 (by decide) rfl ?_
          refine r_goto h d_M_clauseOf_140 ?_
          refine r_sub h [2, 3, 4, 5, 6, 7, 0] rfl ?_
          exact ih _ hf
        · refine r_iconst h d_M_clauseOf_92 ki_1 ?_
          refine r_goto h d_M_clauseOf_93 ?_
          refine r_istore (ls' := [(7, .int (1 : Int32)), (0, .ref (ya Z 0)), (1, .int x1), (2, .int x2), (3, .int x3), (4, .int x4), (5, .int x5), (6, .int x6)]) h d_M_clauseOf_127 (by decide) rfl ?_
          refine r_iload h d_M_clauseOf_129 0 rfl ?_
          refine r_if_eq_F h d_M_clauseOf_131 (by decide) ?_
          refine r_iload h d_M_clauseOf_134 7 rfl ?_
          exact r_ireturn h d_M_clauseOf_136.1 (Option.some.inj hf) rfl

set_option maxHeartbeats 4000000 in
theorem w_M_clauseOf_L8 {Z : Sy} {Γ : Nat → List (Nat × Value) → List Value → St → Prop} {res : Int32} {x1 : Int32} {x2 : Int32} {x3 : Int32} {x4 : Int32} {σ : St} (h : IsG YM Z R_M c_M_clauseOf 8 2 (some .int) (some (.int res)) σ Γ) : ∀ (n : Nat) (x5 : Int32), M_clauseOf_L8 x1 x2 x3 x4 σ n x5 = some res → Γ 8 [(0, .ref (ya Z 0)), (1, .int x1), (2, .int x2), (3, .int x3), (4, .int x4), (5, .int x5)] [] σ := by
  intro n
  induction n with
  | zero => intro x5 hf; exact absurd hf (by simp [M_clauseOf_L8])
  | succ n ih =>
    intro x5 hf
    rw [M_clauseOf_L8] at hf
    refine r_iload h d_M_clauseOf_8 5 rfl ?_
    refine r_if_lt h d_M_clauseOf_10 hf (fun hf => ?_) (fun hf => ?_)
    · refine r_bipush h d_M_clauseOf_149 kb_m9 ?_
      exact r_ireturn h d_M_clauseOf_151.1 (Option.some.inj hf) rfl
    · refine r_aload_n h d_M_clauseOf_13 0 rfl rfl ?_
      refine r_getR h fd_YM_0_27 cf_M fl_M_68 d_M_clauseOf_14 ?_
      refine r_iload h d_M_clauseOf_17 5 rfl ?_
      refine r_iald h sh_YM_20 d_M_clauseOf_19 hf (fun hf => ?_)
      refine r_iload_n h d_M_clauseOf_20 3 rfl rfl ?_
      refine r_icmp_ne h d_M_clauseOf_21 hf (fun hf => ?_) (fun hf => ?_)
      · refine r_iinc (ls' := [(5, .int (x5 + (-1 : Int32))), (0, .ref (ya Z 0)), (1, .int x1), (2, .int x2), (3, .int x3), (4, .int x4)]) h d_M_clauseOf_143 5 rfl ki_m1 (by decide) rfl ?_
        refine r_goto h d_M_clauseOf_146 ?_
        refine r_sub h [1, 2, 3, 4, 5, 0] rfl ?_
        exact ih _ hf
      · refine r_iload h d_M_clauseOf_24 4 rfl ?_
        refine r_i2l h d_M_clauseOf_26 ?_
        refine r_aload_n h d_M_clauseOf_27 0 rfl rfl ?_
        refine r_getR h fd_YM_0_28 cf_M fl_M_71 d_M_clauseOf_28 ?_
        refine r_iload h d_M_clauseOf_31 5 rfl ?_
        refine r_iald h sh_YM_21 d_M_clauseOf_33 hf (fun hf => ?_)
        refine r_i2l h d_M_clauseOf_34 ?_
        refine r_aload_n h d_M_clauseOf_35 0 rfl rfl ?_
        refine r_getR h fd_YM_0_29 cf_M fl_M_74 d_M_clauseOf_36 ?_
        refine r_iload h d_M_clauseOf_39 5 rfl ?_
        refine r_iald h sh_YM_22 d_M_clauseOf_41 hf (fun hf => ?_)
        refine r_i2l h d_M_clauseOf_42 ?_
        obtain ⟨r43, e43, hf⟩ := q_bind hf
        refine r_callS (As := [.long (Int32.toInt64 x4), .long (Int32.toInt64 (σ.1 21 (Int32.toNatClampNeg x5))), .long (Int32.toInt64 (σ.1 22 (Int32.toNatClampNeg x5)))]) (rest := []) h lk_M_201 sk_M_201 d_M_clauseOf_43 (by decide) rfl rfl (Nat.le_of_ble_eq_true rfl) (m_M_in e43) ?_
        refine r_bif_eq h d_M_clauseOf_46 hf (fun hf => ?_) (fun hf => ?_)
        · refine r_iinc (ls' := [(5, .int (x5 + (-1 : Int32))), (0, .ref (ya Z 0)), (1, .int x1), (2, .int x2), (3, .int x3), (4, .int x4)]) h d_M_clauseOf_143 5 rfl ki_m1 (by decide) rfl ?_
          refine r_goto h d_M_clauseOf_146 ?_
          refine r_sub h [1, 2, 3, 4, 5, 0] rfl ?_
          exact ih _ hf
        · refine r_bipush h d_M_clauseOf_49 kb_6 ?_
          refine r_iload h d_M_clauseOf_51 5 rfl ?_
          refine r_imul h d_M_clauseOf_53 ?_
          refine r_aload_n h d_M_clauseOf_54 0 rfl rfl ?_
          refine r_getR h fd_YM_0_30 cf_M fl_M_77 d_M_clauseOf_55 ?_
          refine r_iload h d_M_clauseOf_58 5 rfl ?_
          refine r_iald h sh_YM_23 d_M_clauseOf_60 hf (fun hf => ?_)
          refine r_iadd h d_M_clauseOf_61 ?_
          refine r_iconst h d_M_clauseOf_62 ki_1 ?_
          refine r_isub h d_M_clauseOf_63 ?_
          refine r_istore (ls' := [(6, .int ((((6 : Int32) * x5) + (σ.1 23 (Int32.toNatClampNeg x5))) - (1 : Int32))), (0, .ref (ya Z 0)), (1, .int x1), (2, .int x2), (3, .int x3), (4, .int x4), (5, .int x5)]) h d_M_clauseOf_64 (by decide) rfl ?_
          refine r_sub h [1, 2, 3, 4, 5, 6, 0] rfl ?_
          exact w_M_clauseOf_L66 h (fun y5 hf => ih y5 hf) _ _ hf

set_option maxHeartbeats 4000000 in
theorem m_M_clauseOf {Z : Sy} {σ : St} {res : Int32} {x1 : Int32} {x2 : Int32} {x3 : Int32} {x4 : Int32} (hf : M_clauseOf x1 x2 x3 x4 σ = some res) : Ct YM Z y_M_clauseOf c_M_clauseOf 8 (some .int) 2 [.ref (ya Z 0), .int x1, .int x2, .int x3, .int x4] σ (some (.int res)) σ := by
  refine Ct.of pn_M (Nat.le_of_ble_eq_true rfl) rfl (fun Γ h => ?_)
  have h : IsG YM Z R_M c_M_clauseOf 8 2 (some .int) (some (.int res)) σ Γ := h
  unfold M_clauseOf at hf
  refine r_aload_n h d_M_clauseOf_0 0 rfl rfl ?_
  refine r_getI h fd_YM_0_26 cf_M fl_M_345 d_M_clauseOf_1 ?_
  refine r_iconst h d_M_clauseOf_4 ki_1 ?_
  refine r_isub h d_M_clauseOf_5 ?_
  refine r_istore (ls' := [(5, .int ((σ.1 0 26) - (1 : Int32))), (0, .ref (ya Z 0)), (1, .int x1), (2, .int x2), (3, .int x3), (4, .int x4)]) h d_M_clauseOf_6 (by decide) rfl ?_
  refine r_sub h [1, 2, 3, 4, 5, 0] rfl ?_
  exact w_M_clauseOf_L8 h _ _ hf

theorem d_M_tellingOf_0 : decode c_M_tellingOf 0 = .ok (.aload_n 0, 1) ∧ 0 + 1 = 1 := by decide +kernel
theorem d_M_tellingOf_1 : decode c_M_tellingOf 1 = .ok (.iload_n 1, 1) ∧ 1 + 1 = 2 := by decide +kernel
theorem d_M_tellingOf_2 : decode c_M_tellingOf 2 = .ok (.iload_n 2, 1) ∧ 2 + 1 = 3 := by decide +kernel
theorem d_M_tellingOf_3 : decode c_M_tellingOf 3 = .ok (.iload_n 3, 1) ∧ 3 + 1 = 4 := by decide +kernel
theorem d_M_tellingOf_4 : decode c_M_tellingOf 4 = .ok (.iload 4, 2) ∧ 4 + 2 = 6 := by decide +kernel
theorem d_M_tellingOf_6 : decode c_M_tellingOf 6 = .ok (.invokevirtual 348, 3) ∧ 6 + 3 = 9 := by decide +kernel
theorem d_M_tellingOf_9 : decode c_M_tellingOf 9 = .ok (.istore 5, 2) ∧ 9 + 2 = 11 := by decide +kernel
theorem d_M_tellingOf_11 : decode c_M_tellingOf 11 = .ok (.iload 5, 2) ∧ 11 + 2 = 13 := by decide +kernel
theorem d_M_tellingOf_13 : decode c_M_tellingOf 13 = .ok (.ifCond .lt 8, 3) ∧ 13 + 3 = 16 ∧ ((13 : Nat) : Int) + 8 = ((21 : Nat) : Int) := by decide +kernel
theorem d_M_tellingOf_16 : decode c_M_tellingOf 16 = .ok (.iload 5, 2) ∧ 16 + 2 = 18 := by decide +kernel
theorem d_M_tellingOf_18 : decode c_M_tellingOf 18 = .ok (.goto 12, 3) ∧ (18 : Int) + 12 = (30 : Int) := by decide +kernel
theorem d_M_tellingOf_21 : decode c_M_tellingOf 21 = .ok (.aload_n 0, 1) ∧ 21 + 1 = 22 := by decide +kernel
theorem d_M_tellingOf_22 : decode c_M_tellingOf 22 = .ok (.iload_n 1, 1) ∧ 22 + 1 = 23 := by decide +kernel
theorem d_M_tellingOf_23 : decode c_M_tellingOf 23 = .ok (.iload_n 2, 1) ∧ 23 + 1 = 24 := by decide +kernel
theorem d_M_tellingOf_24 : decode c_M_tellingOf 24 = .ok (.iconst (-1), 1) ∧ 24 + 1 = 25 := by decide +kernel
theorem d_M_tellingOf_25 : decode c_M_tellingOf 25 = .ok (.iload 4, 2) ∧ 25 + 2 = 27 := by decide +kernel
theorem d_M_tellingOf_27 : decode c_M_tellingOf 27 = .ok (.invokevirtual 348, 3) ∧ 27 + 3 = 30 := by decide +kernel
theorem d_M_tellingOf_30 : decode c_M_tellingOf 30 = .ok (.ireturn, 1) ∧ 30 + 1 = 31 := by decide +kernel
set_option maxHeartbeats 4000000 in
theorem m_M_tellingOf {Z : Sy} {σ : St} {res : Int32} {x1 : Int32} {x2 : Int32} {x3 : Int32} {x4 : Int32} (hf : M_tellingOf x1 x2 x3 x4 σ = some res) : Ct YM Z y_M_tellingOf c_M_tellingOf 6 (some .int) 3 [.ref (ya Z 0), .int x1, .int x2, .int x3, .int x4] σ (some (.int res)) σ := by
  refine Ct.of pn_M (Nat.le_of_ble_eq_true rfl) rfl (fun Γ h => ?_)
  have h : IsG YM Z R_M c_M_tellingOf 6 3 (some .int) (some (.int res)) σ Γ := h
  unfold M_tellingOf at hf
  refine r_aload_n h d_M_tellingOf_0 0 rfl rfl ?_
  refine r_iload_n h d_M_tellingOf_1 1 rfl rfl ?_
  refine r_iload_n h d_M_tellingOf_2 2 rfl rfl ?_
  refine r_iload_n h d_M_tellingOf_3 3 rfl rfl ?_
  refine r_iload h d_M_tellingOf_4 4 rfl ?_
  obtain ⟨r6, e6, hf⟩ := q_bind hf
  refine r_callV (As := [.int x1, .int x2, .int x3, .int x4]) (rest := []) h sh_YM_0 lk_M_348 vk_M_348 d_M_tellingOf_6 (by decide) rfl rfl (Nat.le_of_ble_eq_true rfl) (m_M_clauseOf e6) ?_
  refine r_istore (ls' := [(5, .int r6), (0, .ref (ya Z 0)), (1, .int x1), (2, .int x2), (3, .int x3), (4, .int x4)]) h d_M_tellingOf_9 (by decide) rfl ?_
  refine r_iload h d_M_tellingOf_11 0 rfl ?_
  refine r_if_lt h d_M_tellingOf_13 hf (fun hf => ?_) (fun hf => ?_)
  · refine r_aload_n h d_M_tellingOf_21 1 rfl rfl ?_
    refine r_iload_n h d_M_tellingOf_22 2 rfl rfl ?_
    refine r_iload_n h d_M_tellingOf_23 3 rfl rfl ?_
    refine r_iconst h d_M_tellingOf_24 ki_m1 ?_
    refine r_iload h d_M_tellingOf_25 5 rfl ?_
    obtain ⟨r27, e27, hf⟩ := q_bind hf
    refine r_callV (As := [.int x1, .int x2, .int (-1 : Int32), .int x4]) (rest := []) h sh_YM_0 lk_M_348 vk_M_348 d_M_tellingOf_27 (by decide) rfl rfl (Nat.le_of_ble_eq_true rfl) (m_M_clauseOf e27) ?_
    exact r_ireturn h d_M_tellingOf_30.1 (Option.some.inj hf) rfl
  · refine r_iload h d_M_tellingOf_16 0 rfl ?_
    refine r_goto h d_M_tellingOf_18 ?_
    exact r_ireturn h d_M_tellingOf_30.1 (Option.some.inj hf) rfl

theorem d_M_valueOf_0 : decode c_M_valueOf 0 = .ok (.iload_n 2, 1) ∧ 0 + 1 = 1 := by decide +kernel
theorem d_M_valueOf_1 : decode c_M_valueOf 1 = .ok (.ifCond .ge 15, 3) ∧ 1 + 3 = 4 ∧ ((1 : Nat) : Int) + 15 = ((16 : Nat) : Int) := by decide +kernel
theorem d_M_valueOf_4 : decode c_M_valueOf 4 = .ok (.iload_n 1, 1) ∧ 4 + 1 = 5 := by decide +kernel
theorem d_M_valueOf_5 : decode c_M_valueOf 5 = .ok (.ifCond .ne 7, 3) ∧ 5 + 3 = 8 ∧ ((5 : Nat) : Int) + 7 = ((12 : Nat) : Int) := by decide +kernel
theorem d_M_valueOf_8 : decode c_M_valueOf 8 = .ok (.iconst 4, 1) ∧ 8 + 1 = 9 := by decide +kernel
theorem d_M_valueOf_9 : decode c_M_valueOf 9 = .ok (.goto 50, 3) ∧ (9 : Int) + 50 = (59 : Int) := by decide +kernel
theorem d_M_valueOf_12 : decode c_M_valueOf 12 = .ok (.iconst 0, 1) ∧ 12 + 1 = 13 := by decide +kernel
theorem d_M_valueOf_13 : decode c_M_valueOf 13 = .ok (.goto 46, 3) ∧ (13 : Int) + 46 = (59 : Int) := by decide +kernel
theorem d_M_valueOf_16 : decode c_M_valueOf 16 = .ok (.iload_n 1, 1) ∧ 16 + 1 = 17 := by decide +kernel
theorem d_M_valueOf_17 : decode c_M_valueOf 17 = .ok (.iconst 4, 1) ∧ 17 + 1 = 18 := by decide +kernel
theorem d_M_valueOf_18 : decode c_M_valueOf 18 = .ok (.if_icmp .ge 12, 3) ∧ 18 + 3 = 21 ∧ ((18 : Nat) : Int) + 12 = ((30 : Nat) : Int) := by decide +kernel
theorem d_M_valueOf_21 : decode c_M_valueOf 21 = .ok (.aload_n 0, 1) ∧ 21 + 1 = 22 := by decide +kernel
theorem d_M_valueOf_22 : decode c_M_valueOf 22 = .ok (.getfield 83, 3) ∧ 22 + 3 = 25 := by decide +kernel
theorem d_M_valueOf_25 : decode c_M_valueOf 25 = .ok (.iload_n 2, 1) ∧ 25 + 1 = 26 := by decide +kernel
theorem d_M_valueOf_26 : decode c_M_valueOf 26 = .ok (.iaload, 1) ∧ 26 + 1 = 27 := by decide +kernel
theorem d_M_valueOf_27 : decode c_M_valueOf 27 = .ok (.goto 32, 3) ∧ (27 : Int) + 32 = (59 : Int) := by decide +kernel
theorem d_M_valueOf_30 : decode c_M_valueOf 30 = .ok (.aload_n 0, 1) ∧ 30 + 1 = 31 := by decide +kernel
theorem d_M_valueOf_31 : decode c_M_valueOf 31 = .ok (.getfield 80, 3) ∧ 31 + 3 = 34 := by decide +kernel
theorem d_M_valueOf_34 : decode c_M_valueOf 34 = .ok (.iload_n 2, 1) ∧ 34 + 1 = 35 := by decide +kernel
theorem d_M_valueOf_35 : decode c_M_valueOf 35 = .ok (.iaload, 1) ∧ 35 + 1 = 36 := by decide +kernel
theorem d_M_valueOf_36 : decode c_M_valueOf 36 = .ok (.iconst 4, 1) ∧ 36 + 1 = 37 := by decide +kernel
theorem d_M_valueOf_37 : decode c_M_valueOf 37 = .ok (.if_icmp .ne 7, 3) ∧ 37 + 3 = 40 ∧ ((37 : Nat) : Int) + 7 = ((44 : Nat) : Int) := by decide +kernel
theorem d_M_valueOf_40 : decode c_M_valueOf 40 = .ok (.iconst 1, 1) ∧ 40 + 1 = 41 := by decide +kernel
theorem d_M_valueOf_41 : decode c_M_valueOf 41 = .ok (.goto 18, 3) ∧ (41 : Int) + 18 = (59 : Int) := by decide +kernel
theorem d_M_valueOf_44 : decode c_M_valueOf 44 = .ok (.aload_n 0, 1) ∧ 44 + 1 = 45 := by decide +kernel
theorem d_M_valueOf_45 : decode c_M_valueOf 45 = .ok (.getfield 80, 3) ∧ 45 + 3 = 48 := by decide +kernel
theorem d_M_valueOf_48 : decode c_M_valueOf 48 = .ok (.iload_n 2, 1) ∧ 48 + 1 = 49 := by decide +kernel
theorem d_M_valueOf_49 : decode c_M_valueOf 49 = .ok (.iaload, 1) ∧ 49 + 1 = 50 := by decide +kernel
theorem d_M_valueOf_50 : decode c_M_valueOf 50 = .ok (.iconst 5, 1) ∧ 50 + 1 = 51 := by decide +kernel
theorem d_M_valueOf_51 : decode c_M_valueOf 51 = .ok (.if_icmp .ne 7, 3) ∧ 51 + 3 = 54 ∧ ((51 : Nat) : Int) + 7 = ((58 : Nat) : Int) := by decide +kernel
theorem d_M_valueOf_54 : decode c_M_valueOf 54 = .ok (.iconst 2, 1) ∧ 54 + 1 = 55 := by decide +kernel
theorem d_M_valueOf_55 : decode c_M_valueOf 55 = .ok (.goto 4, 3) ∧ (55 : Int) + 4 = (59 : Int) := by decide +kernel
theorem d_M_valueOf_58 : decode c_M_valueOf 58 = .ok (.iconst 0, 1) ∧ 58 + 1 = 59 := by decide +kernel
theorem d_M_valueOf_59 : decode c_M_valueOf 59 = .ok (.ireturn, 1) ∧ 59 + 1 = 60 := by decide +kernel
set_option maxHeartbeats 4000000 in
theorem m_M_valueOf {Z : Sy} {σ : St} {res : Int32} {x1 : Int32} {x2 : Int32} (hf : M_valueOf x1 x2 σ = some res) : Ct YM Z y_M_valueOf c_M_valueOf 3 (some .int) 1 [.ref (ya Z 0), .int x1, .int x2] σ (some (.int res)) σ := by
  refine Ct.of pn_M (Nat.le_of_ble_eq_true rfl) rfl (fun Γ h => ?_)
  have h : IsG YM Z R_M c_M_valueOf 3 1 (some .int) (some (.int res)) σ Γ := h
  unfold M_valueOf at hf
  refine r_iload_n h d_M_valueOf_0 2 rfl rfl ?_
  refine r_if_ge h d_M_valueOf_1 hf (fun hf => ?_) (fun hf => ?_)
  · refine r_iload_n h d_M_valueOf_16 1 rfl rfl ?_
    refine r_iconst h d_M_valueOf_17 ki_4 ?_
    refine r_icmp_ge h d_M_valueOf_18 hf (fun hf => ?_) (fun hf => ?_)
    · refine r_aload_n h d_M_valueOf_30 0 rfl rfl ?_
      refine r_getR h fd_YM_0_31 cf_M fl_M_80 d_M_valueOf_31 ?_
      refine r_iload_n h d_M_valueOf_34 2 rfl rfl ?_
      refine r_iald h sh_YM_24 d_M_valueOf_35 hf (fun hf => ?_)
      refine r_iconst h d_M_valueOf_36 ki_4 ?_
      refine r_icmp_ne h d_M_valueOf_37 hf (fun hf => ?_) (fun hf => ?_)
      · refine r_aload_n h d_M_valueOf_44 0 rfl rfl ?_
        refine r_getR h fd_YM_0_31 cf_M fl_M_80 d_M_valueOf_45 ?_
        refine r_iload_n h d_M_valueOf_48 2 rfl rfl ?_
        refine r_iald h sh_YM_24 d_M_valueOf_49 hf (fun hf => ?_)
        refine r_iconst h d_M_valueOf_50 ki_5 ?_
        refine r_icmp_ne h d_M_valueOf_51 hf (fun hf => ?_) (fun hf => ?_)
        · refine r_iconst h d_M_valueOf_58 ki_0 ?_
          exact r_ireturn h d_M_valueOf_59.1 (Option.some.inj hf) rfl
        · refine r_iconst h d_M_valueOf_54 ki_2 ?_
          refine r_goto h d_M_valueOf_55 ?_
          exact r_ireturn h d_M_valueOf_59.1 (Option.some.inj hf) rfl
      · refine r_iconst h d_M_valueOf_40 ki_1 ?_
        refine r_goto h d_M_valueOf_41 ?_
        exact r_ireturn h d_M_valueOf_59.1 (Option.some.inj hf) rfl
    · refine r_aload_n h d_M_valueOf_21 0 rfl rfl ?_
      refine r_getR h fd_YM_0_32 cf_M fl_M_83 d_M_valueOf_22 ?_
      refine r_iload_n h d_M_valueOf_25 2 rfl rfl ?_
      refine r_iald h sh_YM_25 d_M_valueOf_26 hf (fun hf => ?_)
      refine r_goto h d_M_valueOf_27 ?_
      exact r_ireturn h d_M_valueOf_59.1 (Option.some.inj hf) rfl
  · refine r_iload_n h d_M_valueOf_4 1 rfl rfl ?_
    refine r_if_ne h d_M_valueOf_5 hf (fun hf => ?_) (fun hf => ?_)
    · refine r_iconst h d_M_valueOf_12 ki_0 ?_
      refine r_goto h d_M_valueOf_13 ?_
      exact r_ireturn h d_M_valueOf_59.1 (Option.some.inj hf) rfl
    · refine r_iconst h d_M_valueOf_8 ki_4 ?_
      refine r_goto h d_M_valueOf_9 ?_
      exact r_ireturn h d_M_valueOf_59.1 (Option.some.inj hf) rfl

theorem d_M_forceOf_0 : decode c_M_forceOf 0 = .ok (.aload_n 0, 1) ∧ 0 + 1 = 1 := by decide +kernel
theorem d_M_forceOf_1 : decode c_M_forceOf 1 = .ok (.iload_n 1, 1) ∧ 1 + 1 = 2 := by decide +kernel
theorem d_M_forceOf_2 : decode c_M_forceOf 2 = .ok (.aload_n 0, 1) ∧ 2 + 1 = 3 := by decide +kernel
theorem d_M_forceOf_3 : decode c_M_forceOf 3 = .ok (.iload_n 1, 1) ∧ 3 + 1 = 4 := by decide +kernel
theorem d_M_forceOf_4 : decode c_M_forceOf 4 = .ok (.iconst 0, 1) ∧ 4 + 1 = 5 := by decide +kernel
theorem d_M_forceOf_5 : decode c_M_forceOf 5 = .ok (.iload_n 2, 1) ∧ 5 + 1 = 6 := by decide +kernel
theorem d_M_forceOf_6 : decode c_M_forceOf 6 = .ok (.iload_n 3, 1) ∧ 6 + 1 = 7 := by decide +kernel
theorem d_M_forceOf_7 : decode c_M_forceOf 7 = .ok (.invokevirtual 352, 3) ∧ 7 + 3 = 10 := by decide +kernel
theorem d_M_forceOf_10 : decode c_M_forceOf 10 = .ok (.invokevirtual 355, 3) ∧ 10 + 3 = 13 := by decide +kernel
theorem d_M_forceOf_13 : decode c_M_forceOf 13 = .ok (.ireturn, 1) ∧ 13 + 1 = 14 := by decide +kernel
set_option maxHeartbeats 4000000 in
theorem m_M_forceOf {Z : Sy} {σ : St} {res : Int32} {x1 : Int32} {x2 : Int32} {x3 : Int32} (hf : M_forceOf x1 x2 x3 σ = some res) : Ct YM Z y_M_forceOf c_M_forceOf 4 (some .int) 4 [.ref (ya Z 0), .int x1, .int x2, .int x3] σ (some (.int res)) σ := by
  refine Ct.of pn_M (Nat.le_of_ble_eq_true rfl) rfl (fun Γ h => ?_)
  have h : IsG YM Z R_M c_M_forceOf 4 4 (some .int) (some (.int res)) σ Γ := h
  unfold M_forceOf at hf
  refine r_aload_n h d_M_forceOf_0 0 rfl rfl ?_
  refine r_iload_n h d_M_forceOf_1 1 rfl rfl ?_
  refine r_aload_n h d_M_forceOf_2 0 rfl rfl ?_
  refine r_iload_n h d_M_forceOf_3 1 rfl rfl ?_
  refine r_iconst h d_M_forceOf_4 ki_0 ?_
  refine r_iload_n h d_M_forceOf_5 2 rfl rfl ?_
  refine r_iload_n h d_M_forceOf_6 3 rfl rfl ?_
  obtain ⟨r7, e7, hf⟩ := q_bind hf
  refine r_callV (As := [.int x1, .int (0 : Int32), .int x2, .int x3]) (rest := [.int x1, .ref (ya Z 0)]) h sh_YM_0 lk_M_352 vk_M_352 d_M_forceOf_7 (by decide) rfl rfl (Nat.le_of_ble_eq_true rfl) (m_M_tellingOf e7) ?_
  obtain ⟨r10, e10, hf⟩ := q_bind hf
  refine r_callV (As := [.int x1, .int r7]) (rest := []) h sh_YM_0 lk_M_355 vk_M_355 d_M_forceOf_10 (by decide) rfl rfl (Nat.le_of_ble_eq_true rfl) (m_M_valueOf e10) ?_
  exact r_ireturn h d_M_forceOf_13.1 (Option.some.inj hf) rfl

theorem d_M_force_0 : decode c_M_force 0 = .ok (.iload_n 1, 1) ∧ 0 + 1 = 1 := by decide +kernel
theorem d_M_force_1 : decode c_M_force 1 = .ok (.i2l, 1) ∧ 1 + 1 = 2 := by decide +kernel
theorem d_M_force_2 : decode c_M_force 2 = .ok (.lconst 0, 1) ∧ 2 + 1 = 3 := by decide +kernel
theorem d_M_force_3 : decode c_M_force 3 = .ok (.ldc2_w 358, 3) ∧ 3 + 3 = 6 := by decide +kernel
theorem d_M_force_6 : decode c_M_force 6 = .ok (.invokestatic 201, 3) ∧ 6 + 3 = 9 := by decide +kernel
theorem d_M_force_9 : decode c_M_force 9 = .ok (.ifCond .eq 27, 3) ∧ 9 + 3 = 12 ∧ ((9 : Nat) : Int) + 27 = ((36 : Nat) : Int) := by decide +kernel
theorem d_M_force_12 : decode c_M_force 12 = .ok (.iload_n 2, 1) ∧ 12 + 1 = 13 := by decide +kernel
theorem d_M_force_13 : decode c_M_force 13 = .ok (.invokestatic 230, 3) ∧ 13 + 3 = 16 := by decide +kernel
theorem d_M_force_16 : decode c_M_force 16 = .ok (.ifCond .eq 20, 3) ∧ 16 + 3 = 19 ∧ ((16 : Nat) : Int) + 20 = ((36 : Nat) : Int) := by decide +kernel
theorem d_M_force_19 : decode c_M_force 19 = .ok (.iload_n 3, 1) ∧ 19 + 1 = 20 := by decide +kernel
theorem d_M_force_20 : decode c_M_force 20 = .ok (.invokestatic 205, 3) ∧ 20 + 3 = 23 := by decide +kernel
theorem d_M_force_23 : decode c_M_force 23 = .ok (.ifCond .eq 13, 3) ∧ 23 + 3 = 26 ∧ ((23 : Nat) : Int) + 13 = ((36 : Nat) : Int) := by decide +kernel
theorem d_M_force_26 : decode c_M_force 26 = .ok (.aload_n 0, 1) ∧ 26 + 1 = 27 := by decide +kernel
theorem d_M_force_27 : decode c_M_force 27 = .ok (.iload_n 1, 1) ∧ 27 + 1 = 28 := by decide +kernel
theorem d_M_force_28 : decode c_M_force 28 = .ok (.iload_n 2, 1) ∧ 28 + 1 = 29 := by decide +kernel
theorem d_M_force_29 : decode c_M_force 29 = .ok (.iload_n 3, 1) ∧ 29 + 1 = 30 := by decide +kernel
theorem d_M_force_30 : decode c_M_force 30 = .ok (.invokevirtual 360, 3) ∧ 30 + 3 = 33 := by decide +kernel
theorem d_M_force_33 : decode c_M_force 33 = .ok (.goto 5, 3) ∧ (33 : Int) + 5 = (38 : Int) := by decide +kernel
theorem d_M_force_36 : decode c_M_force 36 = .ok (.bipush (-2), 2) ∧ 36 + 2 = 38 := by decide +kernel
theorem d_M_force_38 : decode c_M_force 38 = .ok (.ireturn, 1) ∧ 38 + 1 = 39 := by decide +kernel
set_option maxHeartbeats 4000000 in
theorem m_M_force {Z : Sy} {σ : St} {res : Int32} {x1 : Int32} {x2 : Int32} {x3 : Int32} (hf : M_force x1 x2 x3 σ = some res) : Ct YM Z y_M_force c_M_force 4 (some .int) 5 [.ref (ya Z 0), .int x1, .int x2, .int x3] σ (some (.int res)) σ := by
  refine Ct.of pn_M (Nat.le_of_ble_eq_true rfl) rfl (fun Γ h => ?_)
  have h : IsG YM Z R_M c_M_force 4 5 (some .int) (some (.int res)) σ Γ := h
  unfold M_force at hf
  refine r_iload_n h d_M_force_0 1 rfl rfl ?_
  refine r_i2l h d_M_force_1 ?_
  refine r_lconst h d_M_force_2 kl_0 ?_
  refine r_ldc2 h d_M_force_3 tm_1509 ?_
  obtain ⟨r6, e6, hf⟩ := q_bind hf
  refine r_callS (As := [.long (Int32.toInt64 x1), .long (0 : Int64), .long (3 : Int64)]) (rest := []) h lk_M_201 sk_M_201 d_M_force_6 (by decide) rfl rfl (Nat.le_of_ble_eq_true rfl) (m_M_in e6) ?_
  refine r_bif_eq h d_M_force_9 hf (fun hf => ?_) (fun hf => ?_)
  · refine r_bipush h d_M_force_36 kb_m2 ?_
    exact r_ireturn h d_M_force_38.1 (Option.some.inj hf) rfl
  · refine r_iload_n h d_M_force_12 2 rfl rfl ?_
    obtain ⟨r13, e13, hf⟩ := q_bind hf
    refine r_callS (As := [.int x2]) (rest := []) h lk_M_230 sk_M_230 d_M_force_13 (by decide) rfl rfl (Nat.le_of_ble_eq_true rfl) (m_M_isLand e13) ?_
    refine r_bif_eq h d_M_force_16 hf (fun hf => ?_) (fun hf => ?_)
    · refine r_bipush h d_M_force_36 kb_m2 ?_
      exact r_ireturn h d_M_force_38.1 (Option.some.inj hf) rfl
    · refine r_iload_n h d_M_force_19 3 rfl rfl ?_
      obtain ⟨r20, e20, hf⟩ := q_bind hf
      refine r_callS (As := [.int x3]) (rest := []) h lk_M_205 sk_M_205 d_M_force_20 (by decide) rfl rfl (Nat.le_of_ble_eq_true rfl) (m_M_isDay e20) ?_
      refine r_bif_eq h d_M_force_23 hf (fun hf => ?_) (fun hf => ?_)
      · refine r_bipush h d_M_force_36 kb_m2 ?_
        exact r_ireturn h d_M_force_38.1 (Option.some.inj hf) rfl
      · refine r_aload_n h d_M_force_26 0 rfl rfl ?_
        refine r_iload_n h d_M_force_27 1 rfl rfl ?_
        refine r_iload_n h d_M_force_28 2 rfl rfl ?_
        refine r_iload_n h d_M_force_29 3 rfl rfl ?_
        obtain ⟨r30, e30, hf⟩ := q_bind hf
        refine r_callV (As := [.int x1, .int x2, .int x3]) (rest := []) h sh_YM_0 lk_M_360 vk_M_360 d_M_force_30 (by decide) rfl rfl (Nat.le_of_ble_eq_true rfl) (m_M_forceOf e30) ?_
        refine r_goto h d_M_force_33 ?_
        exact r_ireturn h d_M_force_38.1 (Option.some.inj hf) rfl

theorem d_M_barOf_0 : decode c_M_barOf 0 = .ok (.aload_n 0, 1) ∧ 0 + 1 = 1 := by decide +kernel
theorem d_M_barOf_1 : decode c_M_barOf 1 = .ok (.iconst 4, 1) ∧ 1 + 1 = 2 := by decide +kernel
theorem d_M_barOf_2 : decode c_M_barOf 2 = .ok (.aload_n 0, 1) ∧ 2 + 1 = 3 := by decide +kernel
theorem d_M_barOf_3 : decode c_M_barOf 3 = .ok (.iconst 4, 1) ∧ 3 + 1 = 4 := by decide +kernel
theorem d_M_barOf_4 : decode c_M_barOf 4 = .ok (.iload_n 1, 1) ∧ 4 + 1 = 5 := by decide +kernel
theorem d_M_barOf_5 : decode c_M_barOf 5 = .ok (.iload_n 2, 1) ∧ 5 + 1 = 6 := by decide +kernel
theorem d_M_barOf_6 : decode c_M_barOf 6 = .ok (.iload_n 3, 1) ∧ 6 + 1 = 7 := by decide +kernel
theorem d_M_barOf_7 : decode c_M_barOf 7 = .ok (.invokevirtual 352, 3) ∧ 7 + 3 = 10 := by decide +kernel
theorem d_M_barOf_10 : decode c_M_barOf 10 = .ok (.invokevirtual 355, 3) ∧ 10 + 3 = 13 := by decide +kernel
theorem d_M_barOf_13 : decode c_M_barOf 13 = .ok (.ireturn, 1) ∧ 13 + 1 = 14 := by decide +kernel
set_option maxHeartbeats 4000000 in
theorem m_M_barOf {Z : Sy} {σ : St} {res : Int32} {x1 : Int32} {x2 : Int32} {x3 : Int32} (hf : M_barOf x1 x2 x3 σ = some res) : Ct YM Z y_M_barOf c_M_barOf 4 (some .int) 4 [.ref (ya Z 0), .int x1, .int x2, .int x3] σ (some (.int res)) σ := by
  refine Ct.of pn_M (Nat.le_of_ble_eq_true rfl) rfl (fun Γ h => ?_)
  have h : IsG YM Z R_M c_M_barOf 4 4 (some .int) (some (.int res)) σ Γ := h
  unfold M_barOf at hf
  refine r_aload_n h d_M_barOf_0 0 rfl rfl ?_
  refine r_iconst h d_M_barOf_1 ki_4 ?_
  refine r_aload_n h d_M_barOf_2 0 rfl rfl ?_
  refine r_iconst h d_M_barOf_3 ki_4 ?_
  refine r_iload_n h d_M_barOf_4 1 rfl rfl ?_
  refine r_iload_n h d_M_barOf_5 2 rfl rfl ?_
  refine r_iload_n h d_M_barOf_6 3 rfl rfl ?_
  obtain ⟨r7, e7, hf⟩ := q_bind hf
  refine r_callV (As := [.int (4 : Int32), .int x1, .int x2, .int x3]) (rest := [.int (4 : Int32), .ref (ya Z 0)]) h sh_YM_0 lk_M_352 vk_M_352 d_M_barOf_7 (by decide) rfl rfl (Nat.le_of_ble_eq_true rfl) (m_M_tellingOf e7) ?_
  obtain ⟨r10, e10, hf⟩ := q_bind hf
  refine r_callV (As := [.int (4 : Int32), .int r7]) (rest := []) h sh_YM_0 lk_M_355 vk_M_355 d_M_barOf_10 (by decide) rfl rfl (Nat.le_of_ble_eq_true rfl) (m_M_valueOf e10) ?_
  exact r_ireturn h d_M_barOf_13.1 (Option.some.inj hf) rfl

theorem d_M_bar_0 : decode c_M_bar 0 = .ok (.iload_n 1, 1) ∧ 0 + 1 = 1 := by decide +kernel
theorem d_M_bar_1 : decode c_M_bar 1 = .ok (.invokestatic 273, 3) ∧ 1 + 3 = 4 := by decide +kernel
theorem d_M_bar_4 : decode c_M_bar 4 = .ok (.ifCond .eq 27, 3) ∧ 4 + 3 = 7 ∧ ((4 : Nat) : Int) + 27 = ((31 : Nat) : Int) := by decide +kernel
theorem d_M_bar_7 : decode c_M_bar 7 = .ok (.iload_n 2, 1) ∧ 7 + 1 = 8 := by decide +kernel
theorem d_M_bar_8 : decode c_M_bar 8 = .ok (.invokestatic 230, 3) ∧ 8 + 3 = 11 := by decide +kernel
theorem d_M_bar_11 : decode c_M_bar 11 = .ok (.ifCond .eq 20, 3) ∧ 11 + 3 = 14 ∧ ((11 : Nat) : Int) + 20 = ((31 : Nat) : Int) := by decide +kernel
theorem d_M_bar_14 : decode c_M_bar 14 = .ok (.iload_n 3, 1) ∧ 14 + 1 = 15 := by decide +kernel
theorem d_M_bar_15 : decode c_M_bar 15 = .ok (.invokestatic 205, 3) ∧ 15 + 3 = 18 := by decide +kernel
theorem d_M_bar_18 : decode c_M_bar 18 = .ok (.ifCond .eq 13, 3) ∧ 18 + 3 = 21 ∧ ((18 : Nat) : Int) + 13 = ((31 : Nat) : Int) := by decide +kernel
theorem d_M_bar_21 : decode c_M_bar 21 = .ok (.aload_n 0, 1) ∧ 21 + 1 = 22 := by decide +kernel
theorem d_M_bar_22 : decode c_M_bar 22 = .ok (.iload_n 1, 1) ∧ 22 + 1 = 23 := by decide +kernel
theorem d_M_bar_23 : decode c_M_bar 23 = .ok (.iload_n 2, 1) ∧ 23 + 1 = 24 := by decide +kernel
theorem d_M_bar_24 : decode c_M_bar 24 = .ok (.iload_n 3, 1) ∧ 24 + 1 = 25 := by decide +kernel
theorem d_M_bar_25 : decode c_M_bar 25 = .ok (.invokevirtual 363, 3) ∧ 25 + 3 = 28 := by decide +kernel
theorem d_M_bar_28 : decode c_M_bar 28 = .ok (.goto 5, 3) ∧ (28 : Int) + 5 = (33 : Int) := by decide +kernel
theorem d_M_bar_31 : decode c_M_bar 31 = .ok (.bipush (-2), 2) ∧ 31 + 2 = 33 := by decide +kernel
theorem d_M_bar_33 : decode c_M_bar 33 = .ok (.ireturn, 1) ∧ 33 + 1 = 34 := by decide +kernel
set_option maxHeartbeats 4000000 in
theorem m_M_bar {Z : Sy} {σ : St} {res : Int32} {x1 : Int32} {x2 : Int32} {x3 : Int32} (hf : M_bar x1 x2 x3 σ = some res) : Ct YM Z y_M_bar c_M_bar 4 (some .int) 5 [.ref (ya Z 0), .int x1, .int x2, .int x3] σ (some (.int res)) σ := by
  refine Ct.of pn_M (Nat.le_of_ble_eq_true rfl) rfl (fun Γ h => ?_)
  have h : IsG YM Z R_M c_M_bar 4 5 (some .int) (some (.int res)) σ Γ := h
  unfold M_bar at hf
  refine r_iload_n h d_M_bar_0 1 rfl rfl ?_
  obtain ⟨r1, e1, hf⟩ := q_bind hf
  refine r_callS (As := [.int x1]) (rest := []) h lk_M_273 sk_M_273 d_M_bar_1 (by decide) rfl rfl (Nat.le_of_ble_eq_true rfl) (m_M_isGood e1) ?_
  refine r_bif_eq h d_M_bar_4 hf (fun hf => ?_) (fun hf => ?_)
  · refine r_bipush h d_M_bar_31 kb_m2 ?_
    exact r_ireturn h d_M_bar_33.1 (Option.some.inj hf) rfl
  · refine r_iload_n h d_M_bar_7 2 rfl rfl ?_
    obtain ⟨r8, e8, hf⟩ := q_bind hf
    refine r_callS (As := [.int x2]) (rest := []) h lk_M_230 sk_M_230 d_M_bar_8 (by decide) rfl rfl (Nat.le_of_ble_eq_true rfl) (m_M_isLand e8) ?_
    refine r_bif_eq h d_M_bar_11 hf (fun hf => ?_) (fun hf => ?_)
    · refine r_bipush h d_M_bar_31 kb_m2 ?_
      exact r_ireturn h d_M_bar_33.1 (Option.some.inj hf) rfl
    · refine r_iload_n h d_M_bar_14 3 rfl rfl ?_
      obtain ⟨r15, e15, hf⟩ := q_bind hf
      refine r_callS (As := [.int x3]) (rest := []) h lk_M_205 sk_M_205 d_M_bar_15 (by decide) rfl rfl (Nat.le_of_ble_eq_true rfl) (m_M_isDay e15) ?_
      refine r_bif_eq h d_M_bar_18 hf (fun hf => ?_) (fun hf => ?_)
      · refine r_bipush h d_M_bar_31 kb_m2 ?_
        exact r_ireturn h d_M_bar_33.1 (Option.some.inj hf) rfl
      · refine r_aload_n h d_M_bar_21 0 rfl rfl ?_
        refine r_iload_n h d_M_bar_22 1 rfl rfl ?_
        refine r_iload_n h d_M_bar_23 2 rfl rfl ?_
        refine r_iload_n h d_M_bar_24 3 rfl rfl ?_
        obtain ⟨r25, e25, hf⟩ := q_bind hf
        refine r_callV (As := [.int x1, .int x2, .int x3]) (rest := []) h sh_YM_0 lk_M_363 vk_M_363 d_M_bar_25 (by decide) rfl rfl (Nat.le_of_ble_eq_true rfl) (m_M_barOf e25) ?_
        refine r_goto h d_M_bar_28 ?_
        exact r_ireturn h d_M_bar_33.1 (Option.some.inj hf) rfl

theorem d_M_isAsked_0 : decode c_M_isAsked 0 = .ok (.iload_n 0, 1) ∧ 0 + 1 = 1 := by decide +kernel
theorem d_M_isAsked_1 : decode c_M_isAsked 1 = .ok (.i2l, 1) ∧ 1 + 1 = 2 := by decide +kernel
theorem d_M_isAsked_2 : decode c_M_isAsked 2 = .ok (.lconst 0, 1) ∧ 2 + 1 = 3 := by decide +kernel
theorem d_M_isAsked_3 : decode c_M_isAsked 3 = .ok (.ldc2_w 271, 3) ∧ 3 + 3 = 6 := by decide +kernel
theorem d_M_isAsked_6 : decode c_M_isAsked 6 = .ok (.invokestatic 201, 3) ∧ 6 + 3 = 9 := by decide +kernel
theorem d_M_isAsked_9 : decode c_M_isAsked 9 = .ok (.ifCond .eq 33, 3) ∧ 9 + 3 = 12 ∧ ((9 : Nat) : Int) + 33 = ((42 : Nat) : Int) := by decide +kernel
theorem d_M_isAsked_12 : decode c_M_isAsked 12 = .ok (.iload_n 0, 1) ∧ 12 + 1 = 13 := by decide +kernel
theorem d_M_isAsked_13 : decode c_M_isAsked 13 = .ok (.iconst 4, 1) ∧ 13 + 1 = 14 := by decide +kernel
theorem d_M_isAsked_14 : decode c_M_isAsked 14 = .ok (.if_icmp .lt 10, 3) ∧ 14 + 3 = 17 ∧ ((14 : Nat) : Int) + 10 = ((24 : Nat) : Int) := by decide +kernel
theorem d_M_isAsked_17 : decode c_M_isAsked 17 = .ok (.iload_n 1, 1) ∧ 17 + 1 = 18 := by decide +kernel
theorem d_M_isAsked_18 : decode c_M_isAsked 18 = .ok (.invokestatic 273, 3) ∧ 18 + 3 = 21 := by decide +kernel
theorem d_M_isAsked_21 : decode c_M_isAsked 21 = .ok (.ifCond .eq 21, 3) ∧ 21 + 3 = 24 ∧ ((21 : Nat) : Int) + 21 = ((42 : Nat) : Int) := by decide +kernel
theorem d_M_isAsked_24 : decode c_M_isAsked 24 = .ok (.iload_n 2, 1) ∧ 24 + 1 = 25 := by decide +kernel
theorem d_M_isAsked_25 : decode c_M_isAsked 25 = .ok (.invokestatic 230, 3) ∧ 25 + 3 = 28 := by decide +kernel
theorem d_M_isAsked_28 : decode c_M_isAsked 28 = .ok (.ifCond .eq 14, 3) ∧ 28 + 3 = 31 ∧ ((28 : Nat) : Int) + 14 = ((42 : Nat) : Int) := by decide +kernel
theorem d_M_isAsked_31 : decode c_M_isAsked 31 = .ok (.iload_n 3, 1) ∧ 31 + 1 = 32 := by decide +kernel
theorem d_M_isAsked_32 : decode c_M_isAsked 32 = .ok (.invokestatic 205, 3) ∧ 32 + 3 = 35 := by decide +kernel
theorem d_M_isAsked_35 : decode c_M_isAsked 35 = .ok (.ifCond .eq 7, 3) ∧ 35 + 3 = 38 ∧ ((35 : Nat) : Int) + 7 = ((42 : Nat) : Int) := by decide +kernel
theorem d_M_isAsked_38 : decode c_M_isAsked 38 = .ok (.iconst 1, 1) ∧ 38 + 1 = 39 := by decide +kernel
theorem d_M_isAsked_39 : decode c_M_isAsked 39 = .ok (.goto 4, 3) ∧ (39 : Int) + 4 = (43 : Int) := by decide +kernel
theorem d_M_isAsked_42 : decode c_M_isAsked 42 = .ok (.iconst 0, 1) ∧ 42 + 1 = 43 := by decide +kernel
theorem d_M_isAsked_43 : decode c_M_isAsked 43 = .ok (.ireturn, 1) ∧ 43 + 1 = 44 := by decide +kernel
set_option maxHeartbeats 4000000 in
theorem m_M_isAsked {Z : Sy} {σ : St} {res : Bool} {x0 : Int32} {x1 : Int32} {x2 : Int32} {x3 : Int32} (hf : M_isAsked x0 x1 x2 x3 σ = some res) : Ct YM Z y_M_isAsked c_M_isAsked 4 (some .boolean) 3 [.int x0, .int x1, .int x2, .int x3] σ (some (.int (bi res))) σ := by
  refine Ct.of pn_M (Nat.le_of_ble_eq_true rfl) rfl (fun Γ h => ?_)
  have h : IsG YM Z R_M c_M_isAsked 4 3 (some .boolean) (some (.int (bi res))) σ Γ := h
  unfold M_isAsked at hf
  refine r_iload_n h d_M_isAsked_0 0 rfl rfl ?_
  refine r_i2l h d_M_isAsked_1 ?_
  refine r_lconst h d_M_isAsked_2 kl_0 ?_
  refine r_ldc2 h d_M_isAsked_3 tm_1491 ?_
  obtain ⟨r6, e6, hf⟩ := q_bind hf
  refine r_callS (As := [.long (Int32.toInt64 x0), .long (0 : Int64), .long (4 : Int64)]) (rest := []) h lk_M_201 sk_M_201 d_M_isAsked_6 (by decide) rfl rfl (Nat.le_of_ble_eq_true rfl) (m_M_in e6) ?_
  refine r_bif_eq h d_M_isAsked_9 hf (fun hf => ?_) (fun hf => ?_)
  · refine r_iconst h d_M_isAsked_42 ki_0 ?_
    exact r_zreturn h d_M_isAsked_43.1 ((show (0 : Int32) = bi false from rfl).trans (congrArg bi (Option.some.inj hf))) rfl
  · refine r_iload_n h d_M_isAsked_12 0 rfl rfl ?_
    refine r_iconst h d_M_isAsked_13 ki_4 ?_
    refine r_icmp_lt h d_M_isAsked_14 hf (fun hf => ?_) (fun hf => ?_)
    · refine r_iload_n h d_M_isAsked_24 2 rfl rfl ?_
      obtain ⟨r25, e25, hf⟩ := q_bind hf
      refine r_callS (As := [.int x2]) (rest := []) h lk_M_230 sk_M_230 d_M_isAsked_25 (by decide) rfl rfl (Nat.le_of_ble_eq_true rfl) (m_M_isLand e25) ?_
      refine r_bif_eq h d_M_isAsked_28 hf (fun hf => ?_) (fun hf => ?_)
      · refine r_iconst h d_M_isAsked_42 ki_0 ?_
        exact r_zreturn h d_M_isAsked_43.1 ((show (0 : Int32) = bi false from rfl).trans (congrArg bi (Option.some.inj hf))) rfl
      · refine r_iload_n h d_M_isAsked_31 3 rfl rfl ?_
        obtain ⟨r32, e32, hf⟩ := q_bind hf
        refine r_callS (As := [.int x3]) (rest := []) h lk_M_205 sk_M_205 d_M_isAsked_32 (by decide) rfl rfl (Nat.le_of_ble_eq_true rfl) (m_M_isDay e32) ?_
        refine r_bif_eq h d_M_isAsked_35 hf (fun hf => ?_) (fun hf => ?_)
        · refine r_iconst h d_M_isAsked_42 ki_0 ?_
          exact r_zreturn h d_M_isAsked_43.1 ((show (0 : Int32) = bi false from rfl).trans (congrArg bi (Option.some.inj hf))) rfl
        · refine r_iconst h d_M_isAsked_38 ki_1 ?_
          refine r_goto h d_M_isAsked_39 ?_
          exact r_zreturn h d_M_isAsked_43.1 ((show (1 : Int32) = bi true from rfl).trans (congrArg bi (Option.some.inj hf))) rfl
    · refine r_iload_n h d_M_isAsked_17 1 rfl rfl ?_
      obtain ⟨r18, e18, hf⟩ := q_bind hf
      refine r_callS (As := [.int x1]) (rest := []) h lk_M_273 sk_M_273 d_M_isAsked_18 (by decide) rfl rfl (Nat.le_of_ble_eq_true rfl) (m_M_isGood e18) ?_
      refine r_bif_eq h d_M_isAsked_21 hf (fun hf => ?_) (fun hf => ?_)
      · refine r_iconst h d_M_isAsked_42 ki_0 ?_
        exact r_zreturn h d_M_isAsked_43.1 ((show (0 : Int32) = bi false from rfl).trans (congrArg bi (Option.some.inj hf))) rfl
      · refine r_iload_n h d_M_isAsked_24 2 rfl rfl ?_
        obtain ⟨r25, e25, hf⟩ := q_bind hf
        refine r_callS (As := [.int x2]) (rest := []) h lk_M_230 sk_M_230 d_M_isAsked_25 (by decide) rfl rfl (Nat.le_of_ble_eq_true rfl) (m_M_isLand e25) ?_
        refine r_bif_eq h d_M_isAsked_28 hf (fun hf => ?_) (fun hf => ?_)
        · refine r_iconst h d_M_isAsked_42 ki_0 ?_
          exact r_zreturn h d_M_isAsked_43.1 ((show (0 : Int32) = bi false from rfl).trans (congrArg bi (Option.some.inj hf))) rfl
        · refine r_iload_n h d_M_isAsked_31 3 rfl rfl ?_
          obtain ⟨r32, e32, hf⟩ := q_bind hf
          refine r_callS (As := [.int x3]) (rest := []) h lk_M_205 sk_M_205 d_M_isAsked_32 (by decide) rfl rfl (Nat.le_of_ble_eq_true rfl) (m_M_isDay e32) ?_
          refine r_bif_eq h d_M_isAsked_35 hf (fun hf => ?_) (fun hf => ?_)
          · refine r_iconst h d_M_isAsked_42 ki_0 ?_
            exact r_zreturn h d_M_isAsked_43.1 ((show (0 : Int32) = bi false from rfl).trans (congrArg bi (Option.some.inj hf))) rfl
          · refine r_iconst h d_M_isAsked_38 ki_1 ?_
            refine r_goto h d_M_isAsked_39 ?_
            exact r_zreturn h d_M_isAsked_43.1 ((show (1 : Int32) = bi true from rfl).trans (congrArg bi (Option.some.inj hf))) rfl

theorem d_M_why_0 : decode c_M_why 0 = .ok (.iload_n 1, 1) ∧ 0 + 1 = 1 := by decide +kernel
theorem d_M_why_1 : decode c_M_why 1 = .ok (.iload_n 2, 1) ∧ 1 + 1 = 2 := by decide +kernel
theorem d_M_why_2 : decode c_M_why 2 = .ok (.iload_n 3, 1) ∧ 2 + 1 = 3 := by decide +kernel
theorem d_M_why_3 : decode c_M_why 3 = .ok (.iload 4, 2) ∧ 3 + 2 = 5 := by decide +kernel
theorem d_M_why_5 : decode c_M_why 5 = .ok (.invokestatic 366, 3) ∧ 5 + 3 = 8 := by decide +kernel
theorem d_M_why_8 : decode c_M_why 8 = .ok (.ifCond .ne 6, 3) ∧ 8 + 3 = 11 ∧ ((8 : Nat) : Int) + 6 = ((14 : Nat) : Int) := by decide +kernel
theorem d_M_why_11 : decode c_M_why 11 = .ok (.bipush (-2), 2) ∧ 11 + 2 = 13 := by decide +kernel
theorem d_M_why_13 : decode c_M_why 13 = .ok (.ireturn, 1) ∧ 13 + 1 = 14 := by decide +kernel
theorem d_M_why_14 : decode c_M_why 14 = .ok (.aload_n 0, 1) ∧ 14 + 1 = 15 := by decide +kernel
theorem d_M_why_15 : decode c_M_why 15 = .ok (.iload_n 1, 1) ∧ 15 + 1 = 16 := by decide +kernel
theorem d_M_why_16 : decode c_M_why 16 = .ok (.iload_n 2, 1) ∧ 16 + 1 = 17 := by decide +kernel
theorem d_M_why_17 : decode c_M_why 17 = .ok (.iload_n 3, 1) ∧ 17 + 1 = 18 := by decide +kernel
theorem d_M_why_18 : decode c_M_why 18 = .ok (.iload 4, 2) ∧ 18 + 2 = 20 := by decide +kernel
theorem d_M_why_20 : decode c_M_why 20 = .ok (.invokevirtual 352, 3) ∧ 20 + 3 = 23 := by decide +kernel
theorem d_M_why_23 : decode c_M_why 23 = .ok (.istore 5, 2) ∧ 23 + 2 = 25 := by decide +kernel
theorem d_M_why_25 : decode c_M_why 25 = .ok (.iload 5, 2) ∧ 25 + 2 = 27 := by decide +kernel
theorem d_M_why_27 : decode c_M_why 27 = .ok (.ifCond .ge 8, 3) ∧ 27 + 3 = 30 ∧ ((27 : Nat) : Int) + 8 = ((35 : Nat) : Int) := by decide +kernel
theorem d_M_why_30 : decode c_M_why 30 = .ok (.bipush (-9), 2) ∧ 30 + 2 = 32 := by decide +kernel
theorem d_M_why_32 : decode c_M_why 32 = .ok (.goto 8, 3) ∧ (32 : Int) + 8 = (40 : Int) := by decide +kernel
theorem d_M_why_35 : decode c_M_why 35 = .ok (.iload 5, 2) ∧ 35 + 2 = 37 := by decide +kernel
theorem d_M_why_37 : decode c_M_why 37 = .ok (.bipush 6, 2) ∧ 37 + 2 = 39 := by decide +kernel
theorem d_M_why_39 : decode c_M_why 39 = .ok (.idiv, 1) ∧ 39 + 1 = 40 := by decide +kernel
theorem d_M_why_40 : decode c_M_why 40 = .ok (.ireturn, 1) ∧ 40 + 1 = 41 := by decide +kernel
set_option maxHeartbeats 4000000 in
theorem m_M_why {Z : Sy} {σ : St} {res : Int32} {x1 : Int32} {x2 : Int32} {x3 : Int32} {x4 : Int32} (hf : M_why x1 x2 x3 x4 σ = some res) : Ct YM Z y_M_why c_M_why 6 (some .int) 4 [.ref (ya Z 0), .int x1, .int x2, .int x3, .int x4] σ (some (.int res)) σ := by
  refine Ct.of pn_M (Nat.le_of_ble_eq_true rfl) rfl (fun Γ h => ?_)
  have h : IsG YM Z R_M c_M_why 6 4 (some .int) (some (.int res)) σ Γ := h
  unfold M_why at hf
  refine r_iload_n h d_M_why_0 1 rfl rfl ?_
  refine r_iload_n h d_M_why_1 2 rfl rfl ?_
  refine r_iload_n h d_M_why_2 3 rfl rfl ?_
  refine r_iload h d_M_why_3 4 rfl ?_
  obtain ⟨r5, e5, hf⟩ := q_bind hf
  refine r_callS (As := [.int x1, .int x2, .int x3, .int x4]) (rest := []) h lk_M_366 sk_M_366 d_M_why_5 (by decide) rfl rfl (Nat.le_of_ble_eq_true rfl) (m_M_isAsked e5) ?_
  refine r_bif_ne h d_M_why_8 hf (fun hf => ?_) (fun hf => ?_)
  · refine r_aload_n h d_M_why_14 0 rfl rfl ?_
    refine r_iload_n h d_M_why_15 1 rfl rfl ?_
    refine r_iload_n h d_M_why_16 2 rfl rfl ?_
    refine r_iload_n h d_M_why_17 3 rfl rfl ?_
    refine r_iload h d_M_why_18 4 rfl ?_
    obtain ⟨r20, e20, hf⟩ := q_bind hf
    refine r_callV (As := [.int x1, .int x2, .int x3, .int x4]) (rest := []) h sh_YM_0 lk_M_352 vk_M_352 d_M_why_20 (by decide) rfl rfl (Nat.le_of_ble_eq_true rfl) (m_M_tellingOf e20) ?_
    refine r_istore (ls' := [(5, .int r20), (0, .ref (ya Z 0)), (1, .int x1), (2, .int x2), (3, .int x3), (4, .int x4)]) h d_M_why_23 (by decide) rfl ?_
    refine r_iload h d_M_why_25 0 rfl ?_
    refine r_if_ge h d_M_why_27 hf (fun hf => ?_) (fun hf => ?_)
    · refine r_iload h d_M_why_35 0 rfl ?_
      refine r_bipush h d_M_why_37 kb_6 ?_
      refine r_idiv h d_M_why_39 (by decide) ?_
      exact r_ireturn h d_M_why_40.1 (Option.some.inj hf) rfl
    · refine r_bipush h d_M_why_30 kb_m9 ?_
      refine r_goto h d_M_why_32 ?_
      exact r_ireturn h d_M_why_40.1 (Option.some.inj hf) rfl
  · refine r_bipush h d_M_why_11 kb_m2 ?_
    exact r_ireturn h d_M_why_13.1 (Option.some.inj hf) rfl

theorem d_M_quarrel_0 : decode c_M_quarrel 0 = .ok (.iload_n 1, 1) ∧ 0 + 1 = 1 := by decide +kernel
theorem d_M_quarrel_1 : decode c_M_quarrel 1 = .ok (.iload_n 2, 1) ∧ 1 + 1 = 2 := by decide +kernel
theorem d_M_quarrel_2 : decode c_M_quarrel 2 = .ok (.iload_n 3, 1) ∧ 2 + 1 = 3 := by decide +kernel
theorem d_M_quarrel_3 : decode c_M_quarrel 3 = .ok (.iload 4, 2) ∧ 3 + 2 = 5 := by decide +kernel
theorem d_M_quarrel_5 : decode c_M_quarrel 5 = .ok (.invokestatic 366, 3) ∧ 5 + 3 = 8 := by decide +kernel
theorem d_M_quarrel_8 : decode c_M_quarrel 8 = .ok (.ifCond .ne 6, 3) ∧ 8 + 3 = 11 ∧ ((8 : Nat) : Int) + 6 = ((14 : Nat) : Int) := by decide +kernel
theorem d_M_quarrel_11 : decode c_M_quarrel 11 = .ok (.bipush (-2), 2) ∧ 11 + 2 = 13 := by decide +kernel
theorem d_M_quarrel_13 : decode c_M_quarrel 13 = .ok (.ireturn, 1) ∧ 13 + 1 = 14 := by decide +kernel
theorem d_M_quarrel_14 : decode c_M_quarrel 14 = .ok (.aload_n 0, 1) ∧ 14 + 1 = 15 := by decide +kernel
theorem d_M_quarrel_15 : decode c_M_quarrel 15 = .ok (.iload_n 1, 1) ∧ 15 + 1 = 16 := by decide +kernel
theorem d_M_quarrel_16 : decode c_M_quarrel 16 = .ok (.iload_n 2, 1) ∧ 16 + 1 = 17 := by decide +kernel
theorem d_M_quarrel_17 : decode c_M_quarrel 17 = .ok (.iload_n 3, 1) ∧ 17 + 1 = 18 := by decide +kernel
theorem d_M_quarrel_18 : decode c_M_quarrel 18 = .ok (.iload 4, 2) ∧ 18 + 2 = 20 := by decide +kernel
theorem d_M_quarrel_20 : decode c_M_quarrel 20 = .ok (.invokevirtual 348, 3) ∧ 20 + 3 = 23 := by decide +kernel
theorem d_M_quarrel_23 : decode c_M_quarrel 23 = .ok (.istore 5, 2) ∧ 23 + 2 = 25 := by decide +kernel
theorem d_M_quarrel_25 : decode c_M_quarrel 25 = .ok (.aload_n 0, 1) ∧ 25 + 1 = 26 := by decide +kernel
theorem d_M_quarrel_26 : decode c_M_quarrel 26 = .ok (.iload_n 1, 1) ∧ 26 + 1 = 27 := by decide +kernel
theorem d_M_quarrel_27 : decode c_M_quarrel 27 = .ok (.iload_n 2, 1) ∧ 27 + 1 = 28 := by decide +kernel
theorem d_M_quarrel_28 : decode c_M_quarrel 28 = .ok (.iconst (-1), 1) ∧ 28 + 1 = 29 := by decide +kernel
theorem d_M_quarrel_29 : decode c_M_quarrel 29 = .ok (.iload 4, 2) ∧ 29 + 2 = 31 := by decide +kernel
theorem d_M_quarrel_31 : decode c_M_quarrel 31 = .ok (.invokevirtual 348, 3) ∧ 31 + 3 = 34 := by decide +kernel
theorem d_M_quarrel_34 : decode c_M_quarrel 34 = .ok (.istore 6, 2) ∧ 34 + 2 = 36 := by decide +kernel
theorem d_M_quarrel_36 : decode c_M_quarrel 36 = .ok (.iload 5, 2) ∧ 36 + 2 = 38 := by decide +kernel
theorem d_M_quarrel_38 : decode c_M_quarrel 38 = .ok (.ifCond .lt 29, 3) ∧ 38 + 3 = 41 ∧ ((38 : Nat) : Int) + 29 = ((67 : Nat) : Int) := by decide +kernel
theorem d_M_quarrel_41 : decode c_M_quarrel 41 = .ok (.iload 6, 2) ∧ 41 + 2 = 43 := by decide +kernel
theorem d_M_quarrel_43 : decode c_M_quarrel 43 = .ok (.ifCond .lt 24, 3) ∧ 43 + 3 = 46 ∧ ((43 : Nat) : Int) + 24 = ((67 : Nat) : Int) := by decide +kernel
theorem d_M_quarrel_46 : decode c_M_quarrel 46 = .ok (.aload_n 0, 1) ∧ 46 + 1 = 47 := by decide +kernel
theorem d_M_quarrel_47 : decode c_M_quarrel 47 = .ok (.iload_n 1, 1) ∧ 47 + 1 = 48 := by decide +kernel
theorem d_M_quarrel_48 : decode c_M_quarrel 48 = .ok (.iload 5, 2) ∧ 48 + 2 = 50 := by decide +kernel
theorem d_M_quarrel_50 : decode c_M_quarrel 50 = .ok (.invokevirtual 355, 3) ∧ 50 + 3 = 53 := by decide +kernel
theorem d_M_quarrel_53 : decode c_M_quarrel 53 = .ok (.aload_n 0, 1) ∧ 53 + 1 = 54 := by decide +kernel
theorem d_M_quarrel_54 : decode c_M_quarrel 54 = .ok (.iload_n 1, 1) ∧ 54 + 1 = 55 := by decide +kernel
theorem d_M_quarrel_55 : decode c_M_quarrel 55 = .ok (.iload 6, 2) ∧ 55 + 2 = 57 := by decide +kernel
theorem d_M_quarrel_57 : decode c_M_quarrel 57 = .ok (.invokevirtual 355, 3) ∧ 57 + 3 = 60 := by decide +kernel
theorem d_M_quarrel_60 : decode c_M_quarrel 60 = .ok (.if_icmp .eq 7, 3) ∧ 60 + 3 = 63 ∧ ((60 : Nat) : Int) + 7 = ((67 : Nat) : Int) := by decide +kernel
theorem d_M_quarrel_63 : decode c_M_quarrel 63 = .ok (.iconst 1, 1) ∧ 63 + 1 = 64 := by decide +kernel
theorem d_M_quarrel_64 : decode c_M_quarrel 64 = .ok (.goto 4, 3) ∧ (64 : Int) + 4 = (68 : Int) := by decide +kernel
theorem d_M_quarrel_67 : decode c_M_quarrel 67 = .ok (.iconst 0, 1) ∧ 67 + 1 = 68 := by decide +kernel
theorem d_M_quarrel_68 : decode c_M_quarrel 68 = .ok (.ireturn, 1) ∧ 68 + 1 = 69 := by decide +kernel
set_option maxHeartbeats 4000000 in
theorem m_M_quarrel {Z : Sy} {σ : St} {res : Int32} {x1 : Int32} {x2 : Int32} {x3 : Int32} {x4 : Int32} (hf : M_quarrel x1 x2 x3 x4 σ = some res) : Ct YM Z y_M_quarrel c_M_quarrel 7 (some .int) 4 [.ref (ya Z 0), .int x1, .int x2, .int x3, .int x4] σ (some (.int res)) σ := by
  refine Ct.of pn_M (Nat.le_of_ble_eq_true rfl) rfl (fun Γ h => ?_)
  have h : IsG YM Z R_M c_M_quarrel 7 4 (some .int) (some (.int res)) σ Γ := h
  unfold M_quarrel at hf
  refine r_iload_n h d_M_quarrel_0 1 rfl rfl ?_
  refine r_iload_n h d_M_quarrel_1 2 rfl rfl ?_
  refine r_iload_n h d_M_quarrel_2 3 rfl rfl ?_
  refine r_iload h d_M_quarrel_3 4 rfl ?_
  obtain ⟨r5, e5, hf⟩ := q_bind hf
  refine r_callS (As := [.int x1, .int x2, .int x3, .int x4]) (rest := []) h lk_M_366 sk_M_366 d_M_quarrel_5 (by decide) rfl rfl (Nat.le_of_ble_eq_true rfl) (m_M_isAsked e5) ?_
  refine r_bif_ne h d_M_quarrel_8 hf (fun hf => ?_) (fun hf => ?_)
  · refine r_aload_n h d_M_quarrel_14 0 rfl rfl ?_
    refine r_iload_n h d_M_quarrel_15 1 rfl rfl ?_
    refine r_iload_n h d_M_quarrel_16 2 rfl rfl ?_
    refine r_iload_n h d_M_quarrel_17 3 rfl rfl ?_
    refine r_iload h d_M_quarrel_18 4 rfl ?_
    obtain ⟨r20, e20, hf⟩ := q_bind hf
    refine r_callV (As := [.int x1, .int x2, .int x3, .int x4]) (rest := []) h sh_YM_0 lk_M_348 vk_M_348 d_M_quarrel_20 (by decide) rfl rfl (Nat.le_of_ble_eq_true rfl) (m_M_clauseOf e20) ?_
    refine r_istore (ls' := [(5, .int r20), (0, .ref (ya Z 0)), (1, .int x1), (2, .int x2), (3, .int x3), (4, .int x4)]) h d_M_quarrel_23 (by decide) rfl ?_
    refine r_aload_n h d_M_quarrel_25 1 rfl rfl ?_
    refine r_iload_n h d_M_quarrel_26 2 rfl rfl ?_
    refine r_iload_n h d_M_quarrel_27 3 rfl rfl ?_
    refine r_iconst h d_M_quarrel_28 ki_m1 ?_
    refine r_iload h d_M_quarrel_29 5 rfl ?_
    obtain ⟨r31, e31, hf⟩ := q_bind hf
    refine r_callV (As := [.int x1, .int x2, .int (-1 : Int32), .int x4]) (rest := []) h sh_YM_0 lk_M_348 vk_M_348 d_M_quarrel_31 (by decide) rfl rfl (Nat.le_of_ble_eq_true rfl) (m_M_clauseOf e31) ?_
    refine r_istore (ls' := [(6, .int r31), (5, .int r20), (0, .ref (ya Z 0)), (1, .int x1), (2, .int x2), (3, .int x3), (4, .int x4)]) h d_M_quarrel_34 (by decide) rfl ?_
    refine r_iload h d_M_quarrel_36 1 rfl ?_
    refine r_if_lt h d_M_quarrel_38 hf (fun hf => ?_) (fun hf => ?_)
    · refine r_iconst h d_M_quarrel_67 ki_0 ?_
      exact r_ireturn h d_M_quarrel_68.1 (Option.some.inj hf) rfl
    · refine r_iload h d_M_quarrel_41 0 rfl ?_
      refine r_if_lt h d_M_quarrel_43 hf (fun hf => ?_) (fun hf => ?_)
      · refine r_iconst h d_M_quarrel_67 ki_0 ?_
        exact r_ireturn h d_M_quarrel_68.1 (Option.some.inj hf) rfl
      · refine r_aload_n h d_M_quarrel_46 2 rfl rfl ?_
        refine r_iload_n h d_M_quarrel_47 3 rfl rfl ?_
        refine r_iload h d_M_quarrel_48 1 rfl ?_
        obtain ⟨r50, e50, hf⟩ := q_bind hf
        refine r_callV (As := [.int x1, .int r20]) (rest := []) h sh_YM_0 lk_M_355 vk_M_355 d_M_quarrel_50 (by decide) rfl rfl (Nat.le_of_ble_eq_true rfl) (m_M_valueOf e50) ?_
        refine r_aload_n h d_M_quarrel_53 2 rfl rfl ?_
        refine r_iload_n h d_M_quarrel_54 3 rfl rfl ?_
        refine r_iload h d_M_quarrel_55 0 rfl ?_
        obtain ⟨r57, e57, hf⟩ := q_bind hf
        refine r_callV (As := [.int x1, .int r31]) (rest := [.int r50]) h sh_YM_0 lk_M_355 vk_M_355 d_M_quarrel_57 (by decide) rfl rfl (Nat.le_of_ble_eq_true rfl) (m_M_valueOf e57) ?_
        refine r_icmp_eq h d_M_quarrel_60 hf (fun hf => ?_) (fun hf => ?_)
        · refine r_iconst h d_M_quarrel_67 ki_0 ?_
          exact r_ireturn h d_M_quarrel_68.1 (Option.some.inj hf) rfl
        · refine r_iconst h d_M_quarrel_63 ki_1 ?_
          refine r_goto h d_M_quarrel_64 ?_
          exact r_ireturn h d_M_quarrel_68.1 (Option.some.inj hf) rfl
  · refine r_bipush h d_M_quarrel_11 kb_m2 ?_
    exact r_ireturn h d_M_quarrel_13.1 (Option.some.inj hf) rfl

theorem d_M_licence_0 : decode c_M_licence 0 = .ok (.aload_n 0, 1) ∧ 0 + 1 = 1 := by decide +kernel
theorem d_M_licence_1 : decode c_M_licence 1 = .ok (.iload_n 1, 1) ∧ 1 + 1 = 2 := by decide +kernel
theorem d_M_licence_2 : decode c_M_licence 2 = .ok (.invokevirtual 237, 3) ∧ 2 + 3 = 5 := by decide +kernel
theorem d_M_licence_5 : decode c_M_licence 5 = .ok (.ifCond .eq 5, 3) ∧ 5 + 3 = 8 ∧ ((5 : Nat) : Int) + 5 = ((10 : Nat) : Int) := by decide +kernel
theorem d_M_licence_8 : decode c_M_licence 8 = .ok (.iconst (-1), 1) ∧ 8 + 1 = 9 := by decide +kernel
theorem d_M_licence_9 : decode c_M_licence 9 = .ok (.ireturn, 1) ∧ 9 + 1 = 10 := by decide +kernel
theorem d_M_licence_10 : decode c_M_licence 10 = .ok (.iload_n 2, 1) ∧ 10 + 1 = 11 := by decide +kernel
theorem d_M_licence_11 : decode c_M_licence 11 = .ok (.invokestatic 230, 3) ∧ 11 + 3 = 14 := by decide +kernel
theorem d_M_licence_14 : decode c_M_licence 14 = .ok (.ifCond .eq 12, 3) ∧ 14 + 3 = 17 ∧ ((14 : Nat) : Int) + 12 = ((26 : Nat) : Int) := by decide +kernel
theorem d_M_licence_17 : decode c_M_licence 17 = .ok (.iload_n 3, 1) ∧ 17 + 1 = 18 := by decide +kernel
theorem d_M_licence_18 : decode c_M_licence 18 = .ok (.iload 4, 2) ∧ 18 + 2 = 20 := by decide +kernel
theorem d_M_licence_20 : decode c_M_licence 20 = .ok (.invokestatic 243, 3) ∧ 20 + 3 = 23 := by decide +kernel
theorem d_M_licence_23 : decode c_M_licence 23 = .ok (.ifCond .ne 6, 3) ∧ 23 + 3 = 26 ∧ ((23 : Nat) : Int) + 6 = ((29 : Nat) : Int) := by decide +kernel
theorem d_M_licence_26 : decode c_M_licence 26 = .ok (.bipush (-2), 2) ∧ 26 + 2 = 28 := by decide +kernel
theorem d_M_licence_28 : decode c_M_licence 28 = .ok (.ireturn, 1) ∧ 28 + 1 = 29 := by decide +kernel
theorem d_M_licence_29 : decode c_M_licence 29 = .ok (.aload_n 0, 1) ∧ 29 + 1 = 30 := by decide +kernel
theorem d_M_licence_30 : decode c_M_licence 30 = .ok (.getfield 370, 3) ∧ 30 + 3 = 33 := by decide +kernel
theorem d_M_licence_33 : decode c_M_licence 33 = .ok (.bipush 12, 2) ∧ 33 + 2 = 35 := by decide +kernel
theorem d_M_licence_35 : decode c_M_licence 35 = .ok (.if_icmp .ne 6, 3) ∧ 35 + 3 = 38 ∧ ((35 : Nat) : Int) + 6 = ((41 : Nat) : Int) := by decide +kernel
theorem d_M_licence_38 : decode c_M_licence 38 = .ok (.bipush (-4), 2) ∧ 38 + 2 = 40 := by decide +kernel
theorem d_M_licence_40 : decode c_M_licence 40 = .ok (.ireturn, 1) ∧ 40 + 1 = 41 := by decide +kernel
theorem d_M_licence_41 : decode c_M_licence 41 = .ok (.aload_n 0, 1) ∧ 41 + 1 = 42 := by decide +kernel
theorem d_M_licence_42 : decode c_M_licence 42 = .ok (.getfield 92, 3) ∧ 42 + 3 = 45 := by decide +kernel
theorem d_M_licence_45 : decode c_M_licence 45 = .ok (.aload_n 0, 1) ∧ 45 + 1 = 46 := by decide +kernel
theorem d_M_licence_46 : decode c_M_licence 46 = .ok (.getfield 370, 3) ∧ 46 + 3 = 49 := by decide +kernel
theorem d_M_licence_49 : decode c_M_licence 49 = .ok (.iload_n 1, 1) ∧ 49 + 1 = 50 := by decide +kernel
theorem d_M_licence_50 : decode c_M_licence 50 = .ok (.iastore, 1) ∧ 50 + 1 = 51 := by decide +kernel
theorem d_M_licence_51 : decode c_M_licence 51 = .ok (.aload_n 0, 1) ∧ 51 + 1 = 52 := by decide +kernel
theorem d_M_licence_52 : decode c_M_licence 52 = .ok (.getfield 95, 3) ∧ 52 + 3 = 55 := by decide +kernel
theorem d_M_licence_55 : decode c_M_licence 55 = .ok (.aload_n 0, 1) ∧ 55 + 1 = 56 := by decide +kernel
theorem d_M_licence_56 : decode c_M_licence 56 = .ok (.getfield 370, 3) ∧ 56 + 3 = 59 := by decide +kernel
theorem d_M_licence_59 : decode c_M_licence 59 = .ok (.iload_n 2, 1) ∧ 59 + 1 = 60 := by decide +kernel
theorem d_M_licence_60 : decode c_M_licence 60 = .ok (.iastore, 1) ∧ 60 + 1 = 61 := by decide +kernel
theorem d_M_licence_61 : decode c_M_licence 61 = .ok (.aload_n 0, 1) ∧ 61 + 1 = 62 := by decide +kernel
theorem d_M_licence_62 : decode c_M_licence 62 = .ok (.getfield 98, 3) ∧ 62 + 3 = 65 := by decide +kernel
theorem d_M_licence_65 : decode c_M_licence 65 = .ok (.aload_n 0, 1) ∧ 65 + 1 = 66 := by decide +kernel
theorem d_M_licence_66 : decode c_M_licence 66 = .ok (.getfield 370, 3) ∧ 66 + 3 = 69 := by decide +kernel
theorem d_M_licence_69 : decode c_M_licence 69 = .ok (.iload_n 3, 1) ∧ 69 + 1 = 70 := by decide +kernel
theorem d_M_licence_70 : decode c_M_licence 70 = .ok (.iastore, 1) ∧ 70 + 1 = 71 := by decide +kernel
theorem d_M_licence_71 : decode c_M_licence 71 = .ok (.aload_n 0, 1) ∧ 71 + 1 = 72 := by decide +kernel
theorem d_M_licence_72 : decode c_M_licence 72 = .ok (.getfield 101, 3) ∧ 72 + 3 = 75 := by decide +kernel
theorem d_M_licence_75 : decode c_M_licence 75 = .ok (.aload_n 0, 1) ∧ 75 + 1 = 76 := by decide +kernel
theorem d_M_licence_76 : decode c_M_licence 76 = .ok (.getfield 370, 3) ∧ 76 + 3 = 79 := by decide +kernel
theorem d_M_licence_79 : decode c_M_licence 79 = .ok (.iload 4, 2) ∧ 79 + 2 = 81 := by decide +kernel
theorem d_M_licence_81 : decode c_M_licence 81 = .ok (.iastore, 1) ∧ 81 + 1 = 82 := by decide +kernel
theorem d_M_licence_82 : decode c_M_licence 82 = .ok (.aload_n 0, 1) ∧ 82 + 1 = 83 := by decide +kernel
theorem d_M_licence_83 : decode c_M_licence 83 = .ok (.dup, 1) ∧ 83 + 1 = 84 := by decide +kernel
theorem d_M_licence_84 : decode c_M_licence 84 = .ok (.getfield 370, 3) ∧ 84 + 3 = 87 := by decide +kernel
theorem d_M_licence_87 : decode c_M_licence 87 = .ok (.iconst 1, 1) ∧ 87 + 1 = 88 := by decide +kernel
theorem d_M_licence_88 : decode c_M_licence 88 = .ok (.iadd, 1) ∧ 88 + 1 = 89 := by decide +kernel
theorem d_M_licence_89 : decode c_M_licence 89 = .ok (.putfield 370, 3) ∧ 89 + 3 = 92 := by decide +kernel
theorem d_M_licence_92 : decode c_M_licence 92 = .ok (.aload_n 0, 1) ∧ 92 + 1 = 93 := by decide +kernel
theorem d_M_licence_93 : decode c_M_licence 93 = .ok (.getfield 370, 3) ∧ 93 + 3 = 96 := by decide +kernel
theorem d_M_licence_96 : decode c_M_licence 96 = .ok (.ireturn, 1) ∧ 96 + 1 = 97 := by decide +kernel
set_option maxHeartbeats 4000000 in
theorem m_M_licence {Z : Sy} {σ : St} {res : (Int32 × St)} {x1 : Int32} {x2 : Int32} {x3 : Int32} {x4 : Int32} (hf : M_licence x1 x2 x3 x4 σ = some res) : Ct YM Z y_M_licence c_M_licence 5 (some .int) 4 [.ref (ya Z 0), .int x1, .int x2, .int x3, .int x4] σ (some (.int res.1)) res.2 := by
  refine Ct.of pn_M (Nat.le_of_ble_eq_true rfl) rfl (fun Γ h => ?_)
  have h : IsG YM Z R_M c_M_licence 5 4 (some .int) (some (.int res.1)) res.2 Γ := h
  unfold M_licence at hf
  refine r_aload_n h d_M_licence_0 0 rfl rfl ?_
  refine r_iload_n h d_M_licence_1 1 rfl rfl ?_
  obtain ⟨r2, e2, hf⟩ := q_bind hf
  refine r_callV (As := [.int x1]) (rest := []) h sh_YM_0 lk_M_237 vk_M_237 d_M_licence_2 (by decide) rfl rfl (Nat.le_of_ble_eq_true rfl) (m_M_noBand e2) ?_
  refine r_bif_eq h d_M_licence_5 hf (fun hf => ?_) (fun hf => ?_)
  · refine r_iload_n h d_M_licence_10 2 rfl rfl ?_
    obtain ⟨r11, e11, hf⟩ := q_bind hf
    refine r_callS (As := [.int x2]) (rest := []) h lk_M_230 sk_M_230 d_M_licence_11 (by decide) rfl rfl (Nat.le_of_ble_eq_true rfl) (m_M_isLand e11) ?_
    refine r_bif_eq h d_M_licence_14 hf (fun hf => ?_) (fun hf => ?_)
    · refine r_bipush h d_M_licence_26 kb_m2 ?_
      exact r_ireturn h d_M_licence_28.1 (q_p1 hf) (q_p2 hf)
    · refine r_iload_n h d_M_licence_17 3 rfl rfl ?_
      refine r_iload h d_M_licence_18 4 rfl ?_
      obtain ⟨r20, e20, hf⟩ := q_bind hf
      refine r_callS (As := [.int x3, .int x4]) (rest := []) h lk_M_243 sk_M_243 d_M_licence_20 (by decide) rfl rfl (Nat.le_of_ble_eq_true rfl) (m_M_areDays e20) ?_
      refine r_bif_ne h d_M_licence_23 hf (fun hf => ?_) (fun hf => ?_)
      · refine r_aload_n h d_M_licence_29 0 rfl rfl ?_
        refine r_getI h fd_YM_0_36 cf_M fl_M_370 d_M_licence_30 ?_
        refine r_bipush h d_M_licence_33 kb_12 ?_
        refine r_icmp_ne h d_M_licence_35 hf (fun hf => ?_) (fun hf => ?_)
        · refine r_aload_n h d_M_licence_41 0 rfl rfl ?_
          refine r_getR h fd_YM_0_37 cf_M fl_M_92 d_M_licence_42 ?_
          refine r_aload_n h d_M_licence_45 0 rfl rfl ?_
          refine r_getI h fd_YM_0_36 cf_M fl_M_370 d_M_licence_46 ?_
          refine r_iload_n h d_M_licence_49 1 rfl rfl ?_
          refine r_iast h sh_YM_28 d_M_licence_50 hf (fun hf => ?_)
          refine r_aload_n h d_M_licence_51 0 rfl rfl ?_
          refine r_getR h fd_YM_0_38 cf_M fl_M_95 d_M_licence_52 ?_
          refine r_aload_n h d_M_licence_55 0 rfl rfl ?_
          refine r_getIv (v := (σ.1 0 36)) h fd_YM_0_36 cf_M fl_M_370 d_M_licence_56 rfl ?_
          refine r_iload_n h d_M_licence_59 2 rfl rfl ?_
          refine r_iast h sh_YM_29 d_M_licence_60 hf (fun hf => ?_)
          refine r_aload_n h d_M_licence_61 0 rfl rfl ?_
          refine r_getR h fd_YM_0_39 cf_M fl_M_98 d_M_licence_62 ?_
          refine r_aload_n h d_M_licence_65 0 rfl rfl ?_
          refine r_getIv (v := (σ.1 0 36)) h fd_YM_0_36 cf_M fl_M_370 d_M_licence_66 rfl ?_
          refine r_iload_n h d_M_licence_69 3 rfl rfl ?_
          refine r_iast h sh_YM_30 d_M_licence_70 hf (fun hf => ?_)
          refine r_aload_n h d_M_licence_71 0 rfl rfl ?_
          refine r_getR h fd_YM_0_40 cf_M fl_M_101 d_M_licence_72 ?_
          refine r_aload_n h d_M_licence_75 0 rfl rfl ?_
          refine r_getIv (v := (σ.1 0 36)) h fd_YM_0_36 cf_M fl_M_370 d_M_licence_76 rfl ?_
          refine r_iload h d_M_licence_79 4 rfl ?_
          refine r_iast h sh_YM_31 d_M_licence_81 hf (fun hf => ?_)
          refine r_aload_n h d_M_licence_82 0 rfl rfl ?_
          refine r_dup h d_M_licence_83 rfl ?_
          refine r_getIv (v := (σ.1 0 36)) h fd_YM_0_36 cf_M fl_M_370 d_M_licence_84 rfl ?_
          refine r_iconst h d_M_licence_87 ki_1 ?_
          refine r_iadd h d_M_licence_88 ?_
          refine r_putI h fd_YM_0_36 cf_M fl_M_370 ⟨rfl, rfl⟩ d_M_licence_89 ?_
          refine r_aload_n h d_M_licence_92 0 rfl rfl ?_
          refine r_getIv (v := ((σ.1 0 36) + (1 : Int32))) h fd_YM_0_36 cf_M fl_M_370 d_M_licence_93 rfl ?_
          exact r_ireturn h d_M_licence_96.1 (q_p1 hf) (q_p2 hf)
        · refine r_bipush h d_M_licence_38 kb_m4 ?_
          exact r_ireturn h d_M_licence_40.1 (q_p1 hf) (q_p2 hf)
      · refine r_bipush h d_M_licence_26 kb_m2 ?_
        exact r_ireturn h d_M_licence_28.1 (q_p1 hf) (q_p2 hf)
  · refine r_iconst h d_M_licence_8 ki_m1 ?_
    exact r_ireturn h d_M_licence_9.1 (q_p1 hf) (q_p2 hf)

theorem d_M_isLicensed_0 : decode c_M_isLicensed 0 = .ok (.iconst 0, 1) ∧ 0 + 1 = 1 := by decide +kernel
theorem d_M_isLicensed_1 : decode c_M_isLicensed 1 = .ok (.istore 4, 2) ∧ 1 + 2 = 3 := by decide +kernel
theorem d_M_isLicensed_3 : decode c_M_isLicensed 3 = .ok (.iconst 0, 1) ∧ 3 + 1 = 4 := by decide +kernel
theorem d_M_isLicensed_4 : decode c_M_isLicensed 4 = .ok (.istore 5, 2) ∧ 4 + 2 = 6 := by decide +kernel
theorem d_M_isLicensed_6 : decode c_M_isLicensed 6 = .ok (.iload 5, 2) ∧ 6 + 2 = 8 := by decide +kernel
theorem d_M_isLicensed_8 : decode c_M_isLicensed 8 = .ok (.aload_n 0, 1) ∧ 8 + 1 = 9 := by decide +kernel
theorem d_M_isLicensed_9 : decode c_M_isLicensed 9 = .ok (.getfield 370, 3) ∧ 9 + 3 = 12 := by decide +kernel
theorem d_M_isLicensed_12 : decode c_M_isLicensed 12 = .ok (.if_icmp .ge 67, 3) ∧ 12 + 3 = 15 ∧ ((12 : Nat) : Int) + 67 = ((79 : Nat) : Int) := by decide +kernel
theorem d_M_isLicensed_15 : decode c_M_isLicensed 15 = .ok (.iload 4, 2) ∧ 15 + 2 = 17 := by decide +kernel
theorem d_M_isLicensed_17 : decode c_M_isLicensed 17 = .ok (.ifCond .ne 49, 3) ∧ 17 + 3 = 20 ∧ ((17 : Nat) : Int) + 49 = ((66 : Nat) : Int) := by decide +kernel
theorem d_M_isLicensed_20 : decode c_M_isLicensed 20 = .ok (.aload_n 0, 1) ∧ 20 + 1 = 21 := by decide +kernel
theorem d_M_isLicensed_21 : decode c_M_isLicensed 21 = .ok (.getfield 92, 3) ∧ 21 + 3 = 24 := by decide +kernel
theorem d_M_isLicensed_24 : decode c_M_isLicensed 24 = .ok (.iload 5, 2) ∧ 24 + 2 = 26 := by decide +kernel
theorem d_M_isLicensed_26 : decode c_M_isLicensed 26 = .ok (.iaload, 1) ∧ 26 + 1 = 27 := by decide +kernel
theorem d_M_isLicensed_27 : decode c_M_isLicensed 27 = .ok (.iload_n 1, 1) ∧ 27 + 1 = 28 := by decide +kernel
theorem d_M_isLicensed_28 : decode c_M_isLicensed 28 = .ok (.if_icmp .ne 42, 3) ∧ 28 + 3 = 31 ∧ ((28 : Nat) : Int) + 42 = ((70 : Nat) : Int) := by decide +kernel
theorem d_M_isLicensed_31 : decode c_M_isLicensed 31 = .ok (.aload_n 0, 1) ∧ 31 + 1 = 32 := by decide +kernel
theorem d_M_isLicensed_32 : decode c_M_isLicensed 32 = .ok (.getfield 95, 3) ∧ 32 + 3 = 35 := by decide +kernel
theorem d_M_isLicensed_35 : decode c_M_isLicensed 35 = .ok (.iload 5, 2) ∧ 35 + 2 = 37 := by decide +kernel
theorem d_M_isLicensed_37 : decode c_M_isLicensed 37 = .ok (.iaload, 1) ∧ 37 + 1 = 38 := by decide +kernel
theorem d_M_isLicensed_38 : decode c_M_isLicensed 38 = .ok (.iload_n 2, 1) ∧ 38 + 1 = 39 := by decide +kernel
theorem d_M_isLicensed_39 : decode c_M_isLicensed 39 = .ok (.if_icmp .ne 31, 3) ∧ 39 + 3 = 42 ∧ ((39 : Nat) : Int) + 31 = ((70 : Nat) : Int) := by decide +kernel
theorem d_M_isLicensed_42 : decode c_M_isLicensed 42 = .ok (.iload_n 3, 1) ∧ 42 + 1 = 43 := by decide +kernel
theorem d_M_isLicensed_43 : decode c_M_isLicensed 43 = .ok (.i2l, 1) ∧ 43 + 1 = 44 := by decide +kernel
theorem d_M_isLicensed_44 : decode c_M_isLicensed 44 = .ok (.aload_n 0, 1) ∧ 44 + 1 = 45 := by decide +kernel
theorem d_M_isLicensed_45 : decode c_M_isLicensed 45 = .ok (.getfield 98, 3) ∧ 45 + 3 = 48 := by decide +kernel
theorem d_M_isLicensed_48 : decode c_M_isLicensed 48 = .ok (.iload 5, 2) ∧ 48 + 2 = 50 := by decide +kernel
theorem d_M_isLicensed_50 : decode c_M_isLicensed 50 = .ok (.iaload, 1) ∧ 50 + 1 = 51 := by decide +kernel
theorem d_M_isLicensed_51 : decode c_M_isLicensed 51 = .ok (.i2l, 1) ∧ 51 + 1 = 52 := by decide +kernel
theorem d_M_isLicensed_52 : decode c_M_isLicensed 52 = .ok (.aload_n 0, 1) ∧ 52 + 1 = 53 := by decide +kernel
theorem d_M_isLicensed_53 : decode c_M_isLicensed 53 = .ok (.getfield 101, 3) ∧ 53 + 3 = 56 := by decide +kernel
theorem d_M_isLicensed_56 : decode c_M_isLicensed 56 = .ok (.iload 5, 2) ∧ 56 + 2 = 58 := by decide +kernel
theorem d_M_isLicensed_58 : decode c_M_isLicensed 58 = .ok (.iaload, 1) ∧ 58 + 1 = 59 := by decide +kernel
theorem d_M_isLicensed_59 : decode c_M_isLicensed 59 = .ok (.i2l, 1) ∧ 59 + 1 = 60 := by decide +kernel
theorem d_M_isLicensed_60 : decode c_M_isLicensed 60 = .ok (.invokestatic 201, 3) ∧ 60 + 3 = 63 := by decide +kernel
theorem d_M_isLicensed_63 : decode c_M_isLicensed 63 = .ok (.ifCond .eq 7, 3) ∧ 63 + 3 = 66 ∧ ((63 : Nat) : Int) + 7 = ((70 : Nat) : Int) := by decide +kernel
theorem d_M_isLicensed_66 : decode c_M_isLicensed 66 = .ok (.iconst 1, 1) ∧ 66 + 1 = 67 := by decide +kernel
theorem d_M_isLicensed_67 : decode c_M_isLicensed 67 = .ok (.goto 4, 3) ∧ (67 : Int) + 4 = (71 : Int) := by decide +kernel
theorem d_M_isLicensed_70 : decode c_M_isLicensed 70 = .ok (.iconst 0, 1) ∧ 70 + 1 = 71 := by decide +kernel
theorem d_M_isLicensed_71 : decode c_M_isLicensed 71 = .ok (.istore 4, 2) ∧ 71 + 2 = 73 := by decide +kernel
theorem d_M_isLicensed_73 : decode c_M_isLicensed 73 = .ok (.iinc 5 1, 3) ∧ 73 + 3 = 76 := by decide +kernel
theorem d_M_isLicensed_76 : decode c_M_isLicensed 76 = .ok (.goto (-70), 3) ∧ (76 : Int) + (-70) = (6 : Int) := by decide +kernel
theorem d_M_isLicensed_79 : decode c_M_isLicensed 79 = .ok (.iload 4, 2) ∧ 79 + 2 = 81 := by decide +kernel
theorem d_M_isLicensed_81 : decode c_M_isLicensed 81 = .ok (.ireturn, 1) ∧ 81 + 1 = 82 := by decide +kernel
set_option maxHeartbeats 4000000 in
theorem w_M_isLicensed_L6 {Z : Sy} {Γ : Nat → List (Nat × Value) → List Value → St → Prop} {res : Bool} {x1 : Int32} {x2 : Int32} {x3 : Int32} {σ : St} (h : IsG YM Z R_M c_M_isLicensed 6 2 (some .boolean) (some (.int (bi res))) σ Γ) : ∀ (n : Nat) (x4 : Int32) (x5 : Int32), M_isLicensed_L6 x1 x2 x3 σ n x4 x5 = some res → Γ 6 [(0, .ref (ya Z 0)), (1, .int x1), (2, .int x2), (3, .int x3), (4, .int x4), (5, .int x5)] [] σ := by
  intro n
  induction n with
  | zero => intro x4 x5 hf; exact absurd hf (by simp [M_isLicensed_L6])
  | succ n ih =>
    intro x4 x5 hf
    rw [M_isLicensed_L6] at hf
    refine r_iload h d_M_isLicensed_6 5 rfl ?_
    refine r_aload_n h d_M_isLicensed_8 0 rfl rfl ?_
    refine r_getI h fd_YM_0_36 cf_M fl_M_370 d_M_isLicensed_9 ?_
    refine r_icmp_ge h d_M_isLicensed_12 hf (fun hf => ?_) (fun hf => ?_)
    · refine r_iload h d_M_isLicensed_79 4 rfl ?_
      refine q_case hf (fun hq hf => ?_) (fun hq hf => ?_)
      · exact r_zreturn h d_M_isLicensed_81.1 (hq.trans ((show (0 : Int32) = bi false from rfl).trans (congrArg bi (Option.some.inj hf)))) rfl
      · refine q_case hf (fun hq hf => ?_) (fun hq hf => ?_)
        · exact r_zreturn h d_M_isLicensed_81.1 (hq.trans ((show (1 : Int32) = bi true from rfl).trans (congrArg bi (Option.some.inj hf)))) rfl
        · cases hf
    · refine r_iload h d_M_isLicensed_15 4 rfl ?_
      refine r_if_ne h d_M_isLicensed_17 hf (fun hf => ?_) (fun hf => ?_)
      · refine r_iconst h d_M_isLicensed_66 ki_1 ?_
        refine r_goto h d_M_isLicensed_67 ?_
        refine r_istore (ls' := [(4, .int (1 : Int32)), (0, .ref (ya Z 0)), (1, .int x1), (2, .int x2), (3, .int x3), (5, .int x5)]) h d_M_isLicensed_71 (by decide) rfl ?_
        refine r_iinc (ls' := [(5, .int (x5 + (1 : Int32))), (4, .int (1 : Int32)), (0, .ref (ya Z 0)), (1, .int x1), (2, .int x2), (3, .int x3)]) h d_M_isLicensed_73 5 rfl ki_1 (by decide) rfl ?_
        refine r_goto h d_M_isLicensed_76 ?_
        refine r_sub h [2, 3, 4, 5, 1, 0] rfl ?_
        exact ih _ _ hf
      · refine r_aload_n h d_M_isLicensed_20 0 rfl rfl ?_
        refine r_getR h fd_YM_0_37 cf_M fl_M_92 d_M_isLicensed_21 ?_
        refine r_iload h d_M_isLicensed_24 5 rfl ?_
        refine r_iald h sh_YM_28 d_M_isLicensed_26 hf (fun hf => ?_)
        refine r_iload_n h d_M_isLicensed_27 1 rfl rfl ?_
        refine r_icmp_ne h d_M_isLicensed_28 hf (fun hf => ?_) (fun hf => ?_)
        · refine r_iconst h d_M_isLicensed_70 ki_0 ?_
          refine r_istore (ls' := [(4, .int (0 : Int32)), (0, .ref (ya Z 0)), (1, .int x1), (2, .int x2), (3, .int x3), (5, .int x5)]) h d_M_isLicensed_71 (by decide) rfl ?_
          refine r_iinc (ls' := [(5, .int (x5 + (1 : Int32))), (4, .int (0 : Int32)), (0, .ref (ya Z 0)), (1, .int x1), (2, .int x2), (3, .int x3)]) h d_M_isLicensed_73 5 rfl ki_1 (by decide) rfl ?_
          refine r_goto h d_M_isLicensed_76 ?_
          refine r_sub h [2, 3, 4, 5, 1, 0] rfl ?_
          exact ih _ _ hf
        · refine r_aload_n h d_M_isLicensed_31 0 rfl rfl ?_
          refine r_getR h fd_YM_0_38 cf_M fl_M_95 d_M_isLicensed_32 ?_
          refine r_iload h d_M_isLicensed_35 5 rfl ?_
          refine r_iald h sh_YM_29 d_M_isLicensed_37 hf (fun hf => ?_)
          refine r_iload_n h d_M_isLicensed_38 2 rfl rfl ?_
          refine r_icmp_ne h d_M_isLicensed_39 hf (fun hf => ?_) (fun hf => ?_)
          · refine r_iconst h d_M_isLicensed_70 ki_0 ?_
            refine r_istore (ls' := [(4, .int (0 : Int32)), (0, .ref (ya Z 0)), (1, .int x1), (2, .int x2), (3, .int x3), (5, .int x5)]) h d_M_isLicensed_71 (by decide) rfl ?_
            refine r_iinc (ls' := [(5, .int (x5 + (1 : Int32))), (4, .int (0 : Int32)), (0, .ref (ya Z 0)), (1, .int x1), (2, .int x2), (3, .int x3)]) h d_M_isLicensed_73 5 rfl ki_1 (by decide) rfl ?_
            refine r_goto h d_M_isLicensed_76 ?_
            refine r_sub h [2, 3, 4, 5, 1, 0] rfl ?_
            exact ih _ _ hf
          · refine r_iload_n h d_M_isLicensed_42 3 rfl rfl ?_
            refine r_i2l h d_M_isLicensed_43 ?_
            refine r_aload_n h d_M_isLicensed_44 0 rfl rfl ?_
            refine r_getR h fd_YM_0_39 cf_M fl_M_98 d_M_isLicensed_45 ?_
            refine r_iload h d_M_isLicensed_48 5 rfl ?_
            refine r_iald h sh_YM_30 d_M_isLicensed_50 hf (fun hf => ?_)
            refine r_i2l h d_M_isLicensed_51 ?_
            refine r_aload_n h d_M_isLicensed_52 0 rfl rfl ?_
            refine r_getR h fd_YM_0_40 cf_M fl_M_101 d_M_isLicensed_53 ?_
            refine r_iload h d_M_isLicensed_56 5 rfl ?_
            refine r_iald h sh_YM_31 d_M_isLicensed_58 hf (fun hf => ?_)
            refine r_i2l h d_M_isLicensed_59 ?_
            obtain ⟨r60, e60, hf⟩ := q_bind hf
            refine r_callS (As := [.long (Int32.toInt64 x3), .long (Int32.toInt64 (σ.1 30 (Int32.toNatClampNeg x5))), .long (Int32.toInt64 (σ.1 31 (Int32.toNatClampNeg x5)))]) (rest := []) h lk_M_201 sk_M_201 d_M_isLicensed_60 (by decide) rfl rfl (Nat.le_of_ble_eq_true rfl) (m_M_in e60) ?_
            refine r_bif_eq h d_M_isLicensed_63 hf (fun hf => ?_) (fun hf => ?_)
            · refine r_iconst h d_M_isLicensed_70 ki_0 ?_
              refine r_istore (ls' := [(4, .int (0 : Int32)), (0, .ref (ya Z 0)), (1, .int x1), (2, .int x2), (3, .int x3), (5, .int x5)]) h d_M_isLicensed_71 (by decide) rfl ?_
              refine r_iinc (ls' := [(5, .int (x5 + (1 : Int32))), (4, .int (0 : Int32)), (0, .ref (ya Z 0)), (1, .int x1), (2, .int x2), (3, .int x3)]) h d_M_isLicensed_73 5 rfl ki_1 (by decide) rfl ?_
              refine r_goto h d_M_isLicensed_76 ?_
              refine r_sub h [2, 3, 4, 5, 1, 0] rfl ?_
              exact ih _ _ hf
            · refine r_iconst h d_M_isLicensed_66 ki_1 ?_
              refine r_goto h d_M_isLicensed_67 ?_
              refine r_istore (ls' := [(4, .int (1 : Int32)), (0, .ref (ya Z 0)), (1, .int x1), (2, .int x2), (3, .int x3), (5, .int x5)]) h d_M_isLicensed_71 (by decide) rfl ?_
              refine r_iinc (ls' := [(5, .int (x5 + (1 : Int32))), (4, .int (1 : Int32)), (0, .ref (ya Z 0)), (1, .int x1), (2, .int x2), (3, .int x3)]) h d_M_isLicensed_73 5 rfl ki_1 (by decide) rfl ?_
              refine r_goto h d_M_isLicensed_76 ?_
              refine r_sub h [2, 3, 4, 5, 1, 0] rfl ?_
              exact ih _ _ hf

set_option maxHeartbeats 4000000 in
theorem m_M_isLicensed {Z : Sy} {σ : St} {res : Bool} {x1 : Int32} {x2 : Int32} {x3 : Int32} (hf : M_isLicensed x1 x2 x3 σ = some res) : Ct YM Z y_M_isLicensed c_M_isLicensed 6 (some .boolean) 2 [.ref (ya Z 0), .int x1, .int x2, .int x3] σ (some (.int (bi res))) σ := by
  refine Ct.of pn_M (Nat.le_of_ble_eq_true rfl) rfl (fun Γ h => ?_)
  have h : IsG YM Z R_M c_M_isLicensed 6 2 (some .boolean) (some (.int (bi res))) σ Γ := h
  unfold M_isLicensed at hf
  refine r_iconst h d_M_isLicensed_0 ki_0 ?_
  refine r_istore (ls' := [(4, .int (0 : Int32)), (0, .ref (ya Z 0)), (1, .int x1), (2, .int x2), (3, .int x3)]) h d_M_isLicensed_1 (by decide) rfl ?_
  refine r_iconst h d_M_isLicensed_3 ki_0 ?_
  refine r_istore (ls' := [(5, .int (0 : Int32)), (4, .int (0 : Int32)), (0, .ref (ya Z 0)), (1, .int x1), (2, .int x2), (3, .int x3)]) h d_M_isLicensed_4 (by decide) rfl ?_
  refine r_sub h [2, 3, 4, 5, 1, 0] rfl ?_
  exact w_M_isLicensed_L6 h _ _ _ hf

theorem d_M_isUnallowed_0 : decode c_M_isUnallowed 0 = .ok (.aload_n 0, 1) ∧ 0 + 1 = 1 := by decide +kernel
theorem d_M_isUnallowed_1 : decode c_M_isUnallowed 1 = .ok (.getfield 37, 3) ∧ 1 + 3 = 4 := by decide +kernel
theorem d_M_isUnallowed_4 : decode c_M_isUnallowed 4 = .ok (.aload_n 0, 1) ∧ 4 + 1 = 5 := by decide +kernel
theorem d_M_isUnallowed_5 : decode c_M_isUnallowed 5 = .ok (.getfield 43, 3) ∧ 5 + 3 = 8 := by decide +kernel
theorem d_M_isUnallowed_8 : decode c_M_isUnallowed 8 = .ok (.iload_n 1, 1) ∧ 8 + 1 = 9 := by decide +kernel
theorem d_M_isUnallowed_9 : decode c_M_isUnallowed 9 = .ok (.iaload, 1) ∧ 9 + 1 = 10 := by decide +kernel
theorem d_M_isUnallowed_10 : decode c_M_isUnallowed 10 = .ok (.iaload, 1) ∧ 10 + 1 = 11 := by decide +kernel
theorem d_M_isUnallowed_11 : decode c_M_isUnallowed 11 = .ok (.istore_n 2, 1) ∧ 11 + 1 = 12 := by decide +kernel
theorem d_M_isUnallowed_12 : decode c_M_isUnallowed 12 = .ok (.aload_n 0, 1) ∧ 12 + 1 = 13 := by decide +kernel
theorem d_M_isUnallowed_13 : decode c_M_isUnallowed 13 = .ok (.getfield 58, 3) ∧ 13 + 3 = 16 := by decide +kernel
theorem d_M_isUnallowed_16 : decode c_M_isUnallowed 16 = .ok (.iload_n 1, 1) ∧ 16 + 1 = 17 := by decide +kernel
theorem d_M_isUnallowed_17 : decode c_M_isUnallowed 17 = .ok (.iaload, 1) ∧ 17 + 1 = 18 := by decide +kernel
theorem d_M_isUnallowed_18 : decode c_M_isUnallowed 18 = .ok (.istore_n 3, 1) ∧ 18 + 1 = 19 := by decide +kernel
theorem d_M_isUnallowed_19 : decode c_M_isUnallowed 19 = .ok (.aload_n 0, 1) ∧ 19 + 1 = 20 := by decide +kernel
theorem d_M_isUnallowed_20 : decode c_M_isUnallowed 20 = .ok (.iload_n 2, 1) ∧ 20 + 1 = 21 := by decide +kernel
theorem d_M_isUnallowed_21 : decode c_M_isUnallowed 21 = .ok (.iload_n 3, 1) ∧ 21 + 1 = 22 := by decide +kernel
theorem d_M_isUnallowed_22 : decode c_M_isUnallowed 22 = .ok (.invokevirtual 250, 3) ∧ 22 + 3 = 25 := by decide +kernel
theorem d_M_isUnallowed_25 : decode c_M_isUnallowed 25 = .ok (.istore 4, 2) ∧ 25 + 2 = 27 := by decide +kernel
theorem d_M_isUnallowed_27 : decode c_M_isUnallowed 27 = .ok (.aload_n 0, 1) ∧ 27 + 1 = 28 := by decide +kernel
theorem d_M_isUnallowed_28 : decode c_M_isUnallowed 28 = .ok (.getfield 46, 3) ∧ 28 + 3 = 31 := by decide +kernel
theorem d_M_isUnallowed_31 : decode c_M_isUnallowed 31 = .ok (.iload_n 1, 1) ∧ 31 + 1 = 32 := by decide +kernel
theorem d_M_isUnallowed_32 : decode c_M_isUnallowed 32 = .ok (.iaload, 1) ∧ 32 + 1 = 33 := by decide +kernel
theorem d_M_isUnallowed_33 : decode c_M_isUnallowed 33 = .ok (.iconst 2, 1) ∧ 33 + 1 = 34 := by decide +kernel
theorem d_M_isUnallowed_34 : decode c_M_isUnallowed 34 = .ok (.if_icmp .ne 8, 3) ∧ 34 + 3 = 37 ∧ ((34 : Nat) : Int) + 8 = ((42 : Nat) : Int) := by decide +kernel
theorem d_M_isUnallowed_37 : decode c_M_isUnallowed 37 = .ok (.iload 4, 2) ∧ 37 + 2 = 39 := by decide +kernel
theorem d_M_isUnallowed_39 : decode c_M_isUnallowed 39 = .ok (.ifCond .ge 5, 3) ∧ 39 + 3 = 42 ∧ ((39 : Nat) : Int) + 5 = ((44 : Nat) : Int) := by decide +kernel
theorem d_M_isUnallowed_42 : decode c_M_isUnallowed 42 = .ok (.iconst 0, 1) ∧ 42 + 1 = 43 := by decide +kernel
theorem d_M_isUnallowed_43 : decode c_M_isUnallowed 43 = .ok (.ireturn, 1) ∧ 43 + 1 = 44 := by decide +kernel
theorem d_M_isUnallowed_44 : decode c_M_isUnallowed 44 = .ok (.aload_n 0, 1) ∧ 44 + 1 = 45 := by decide +kernel
theorem d_M_isUnallowed_45 : decode c_M_isUnallowed 45 = .ok (.aload_n 0, 1) ∧ 45 + 1 = 46 := by decide +kernel
theorem d_M_isUnallowed_46 : decode c_M_isUnallowed 46 = .ok (.getfield 49, 3) ∧ 46 + 3 = 49 := by decide +kernel
theorem d_M_isUnallowed_49 : decode c_M_isUnallowed 49 = .ok (.iload_n 1, 1) ∧ 49 + 1 = 50 := by decide +kernel
theorem d_M_isUnallowed_50 : decode c_M_isUnallowed 50 = .ok (.iaload, 1) ∧ 50 + 1 = 51 := by decide +kernel
theorem d_M_isUnallowed_51 : decode c_M_isUnallowed 51 = .ok (.aload_n 0, 1) ∧ 51 + 1 = 52 := by decide +kernel
theorem d_M_isUnallowed_52 : decode c_M_isUnallowed 52 = .ok (.getfield 7, 3) ∧ 52 + 3 = 55 := by decide +kernel
theorem d_M_isUnallowed_55 : decode c_M_isUnallowed 55 = .ok (.iload 4, 2) ∧ 55 + 2 = 57 := by decide +kernel
theorem d_M_isUnallowed_57 : decode c_M_isUnallowed 57 = .ok (.iaload, 1) ∧ 57 + 1 = 58 := by decide +kernel
theorem d_M_isUnallowed_58 : decode c_M_isUnallowed 58 = .ok (.iload_n 3, 1) ∧ 58 + 1 = 59 := by decide +kernel
theorem d_M_isUnallowed_59 : decode c_M_isUnallowed 59 = .ok (.invokevirtual 363, 3) ∧ 59 + 3 = 62 := by decide +kernel
theorem d_M_isUnallowed_62 : decode c_M_isUnallowed 62 = .ok (.istore 5, 2) ∧ 62 + 2 = 64 := by decide +kernel
theorem d_M_isUnallowed_64 : decode c_M_isUnallowed 64 = .ok (.iload 5, 2) ∧ 64 + 2 = 66 := by decide +kernel
theorem d_M_isUnallowed_66 : decode c_M_isUnallowed 66 = .ok (.iconst 1, 1) ∧ 66 + 1 = 67 := by decide +kernel
theorem d_M_isUnallowed_67 : decode c_M_isUnallowed 67 = .ok (.if_icmp .eq 25, 3) ∧ 67 + 3 = 70 ∧ ((67 : Nat) : Int) + 25 = ((92 : Nat) : Int) := by decide +kernel
theorem d_M_isUnallowed_70 : decode c_M_isUnallowed 70 = .ok (.iload 5, 2) ∧ 70 + 2 = 72 := by decide +kernel
theorem d_M_isUnallowed_72 : decode c_M_isUnallowed 72 = .ok (.iconst 2, 1) ∧ 72 + 1 = 73 := by decide +kernel
theorem d_M_isUnallowed_73 : decode c_M_isUnallowed 73 = .ok (.if_icmp .ne 23, 3) ∧ 73 + 3 = 76 ∧ ((73 : Nat) : Int) + 23 = ((96 : Nat) : Int) := by decide +kernel
theorem d_M_isUnallowed_76 : decode c_M_isUnallowed 76 = .ok (.aload_n 0, 1) ∧ 76 + 1 = 77 := by decide +kernel
theorem d_M_isUnallowed_77 : decode c_M_isUnallowed 77 = .ok (.iload_n 2, 1) ∧ 77 + 1 = 78 := by decide +kernel
theorem d_M_isUnallowed_78 : decode c_M_isUnallowed 78 = .ok (.aload_n 0, 1) ∧ 78 + 1 = 79 := by decide +kernel
theorem d_M_isUnallowed_79 : decode c_M_isUnallowed 79 = .ok (.getfield 7, 3) ∧ 79 + 3 = 82 := by decide +kernel
theorem d_M_isUnallowed_82 : decode c_M_isUnallowed 82 = .ok (.iload 4, 2) ∧ 82 + 2 = 84 := by decide +kernel
theorem d_M_isUnallowed_84 : decode c_M_isUnallowed 84 = .ok (.iaload, 1) ∧ 84 + 1 = 85 := by decide +kernel
theorem d_M_isUnallowed_85 : decode c_M_isUnallowed 85 = .ok (.iload_n 3, 1) ∧ 85 + 1 = 86 := by decide +kernel
theorem d_M_isUnallowed_86 : decode c_M_isUnallowed 86 = .ok (.invokevirtual 373, 3) ∧ 86 + 3 = 89 := by decide +kernel
theorem d_M_isUnallowed_89 : decode c_M_isUnallowed 89 = .ok (.ifCond .ne 7, 3) ∧ 89 + 3 = 92 ∧ ((89 : Nat) : Int) + 7 = ((96 : Nat) : Int) := by decide +kernel
theorem d_M_isUnallowed_92 : decode c_M_isUnallowed 92 = .ok (.iconst 1, 1) ∧ 92 + 1 = 93 := by decide +kernel
theorem d_M_isUnallowed_93 : decode c_M_isUnallowed 93 = .ok (.goto 4, 3) ∧ (93 : Int) + 4 = (97 : Int) := by decide +kernel
theorem d_M_isUnallowed_96 : decode c_M_isUnallowed 96 = .ok (.iconst 0, 1) ∧ 96 + 1 = 97 := by decide +kernel
theorem d_M_isUnallowed_97 : decode c_M_isUnallowed 97 = .ok (.ireturn, 1) ∧ 97 + 1 = 98 := by decide +kernel
set_option maxHeartbeats 4000000 in
theorem m_M_isUnallowed {Z : Sy} {σ : St} {res : Bool} {x1 : Int32} (hf : M_isUnallowed x1 σ = some res) : Ct YM Z y_M_isUnallowed c_M_isUnallowed 6 (some .boolean) 5 [.ref (ya Z 0), .int x1] σ (some (.int (bi res))) σ := by
  refine Ct.of pn_M (Nat.le_of_ble_eq_true rfl) rfl (fun Γ h => ?_)
  have h : IsG YM Z R_M c_M_isUnallowed 6 5 (some .boolean) (some (.int (bi res))) σ Γ := h
  unfold M_isUnallowed at hf
  refine r_aload_n h d_M_isUnallowed_0 0 rfl rfl ?_
  refine r_getR h fd_YM_0_15 cf_M fl_M_37 d_M_isUnallowed_1 ?_
  refine r_aload_n h d_M_isUnallowed_4 0 rfl rfl ?_
  refine r_getR h fd_YM_0_18 cf_M fl_M_43 d_M_isUnallowed_5 ?_
  refine r_iload_n h d_M_isUnallowed_8 1 rfl rfl ?_
  refine r_iald h sh_YM_12 d_M_isUnallowed_9 hf (fun hf => ?_)
  refine r_iald h sh_YM_10 d_M_isUnallowed_10 hf (fun hf => ?_)
  refine r_istore_n (ls' := [(2, .int (σ.1 10 (Int32.toNatClampNeg (σ.1 12 (Int32.toNatClampNeg x1))))), (0, .ref (ya Z 0)), (1, .int x1)]) h d_M_isUnallowed_11 rfl (by decide) rfl ?_
  refine r_aload_n h d_M_isUnallowed_12 1 rfl rfl ?_
  refine r_getR h fd_YM_0_23 cf_M fl_M_58 d_M_isUnallowed_13 ?_
  refine r_iload_n h d_M_isUnallowed_16 2 rfl rfl ?_
  refine r_iald h sh_YM_17 d_M_isUnallowed_17 hf (fun hf => ?_)
  refine r_istore_n (ls' := [(3, .int (σ.1 17 (Int32.toNatClampNeg x1))), (2, .int (σ.1 10 (Int32.toNatClampNeg (σ.1 12 (Int32.toNatClampNeg x1))))), (0, .ref (ya Z 0)), (1, .int x1)]) h d_M_isUnallowed_18 rfl (by decide) rfl ?_
  refine r_aload_n h d_M_isUnallowed_19 2 rfl rfl ?_
  refine r_iload_n h d_M_isUnallowed_20 1 rfl rfl ?_
  refine r_iload_n h d_M_isUnallowed_21 0 rfl rfl ?_
  obtain ⟨r22, e22, hf⟩ := q_bind hf
  refine r_callV (As := [.int (σ.1 10 (Int32.toNatClampNeg (σ.1 12 (Int32.toNatClampNeg x1)))), .int (σ.1 17 (Int32.toNatClampNeg x1))]) (rest := []) h sh_YM_0 lk_M_250 vk_M_250 d_M_isUnallowed_22 (by decide) rfl rfl (Nat.le_of_ble_eq_true rfl) (m_M_placeAt e22) ?_
  refine r_istore (ls' := [(4, .int r22), (3, .int (σ.1 17 (Int32.toNatClampNeg x1))), (2, .int (σ.1 10 (Int32.toNatClampNeg (σ.1 12 (Int32.toNatClampNeg x1))))), (0, .ref (ya Z 0)), (1, .int x1)]) h d_M_isUnallowed_25 (by decide) rfl ?_
  refine r_aload_n h d_M_isUnallowed_27 3 rfl rfl ?_
  refine r_getR h fd_YM_0_19 cf_M fl_M_46 d_M_isUnallowed_28 ?_
  refine r_iload_n h d_M_isUnallowed_31 4 rfl rfl ?_
  refine r_iald h sh_YM_13 d_M_isUnallowed_32 hf (fun hf => ?_)
  refine r_iconst h d_M_isUnallowed_33 ki_2 ?_
  refine r_icmp_ne h d_M_isUnallowed_34 hf (fun hf => ?_) (fun hf => ?_)
  · refine r_iconst h d_M_isUnallowed_42 ki_0 ?_
    exact r_zreturn h d_M_isUnallowed_43.1 ((show (0 : Int32) = bi false from rfl).trans (congrArg bi (Option.some.inj hf))) rfl
  · refine r_iload h d_M_isUnallowed_37 0 rfl ?_
    refine r_if_ge h d_M_isUnallowed_39 hf (fun hf => ?_) (fun hf => ?_)
    · refine r_aload_n h d_M_isUnallowed_44 3 rfl rfl ?_
      refine r_aload_n h d_M_isUnallowed_45 3 rfl rfl ?_
      refine r_getR h fd_YM_0_20 cf_M fl_M_49 d_M_isUnallowed_46 ?_
      refine r_iload_n h d_M_isUnallowed_49 4 rfl rfl ?_
      refine r_iald h sh_YM_14 d_M_isUnallowed_50 hf (fun hf => ?_)
      refine r_aload_n h d_M_isUnallowed_51 3 rfl rfl ?_
      refine r_getR h fd_YM_0_4 cf_M fl_M_7 d_M_isUnallowed_52 ?_
      refine r_iload h d_M_isUnallowed_55 0 rfl ?_
      refine r_iald h sh_YM_1 d_M_isUnallowed_57 hf (fun hf => ?_)
      refine r_iload_n h d_M_isUnallowed_58 1 rfl rfl ?_
      obtain ⟨r59, e59, hf⟩ := q_bind hf
      refine r_callV (As := [.int (σ.1 14 (Int32.toNatClampNeg x1)), .int (σ.1 1 (Int32.toNatClampNeg r22)), .int (σ.1 17 (Int32.toNatClampNeg x1))]) (rest := []) h sh_YM_0 lk_M_363 vk_M_363 d_M_isUnallowed_59 (by decide) rfl rfl (Nat.le_of_ble_eq_true rfl) (m_M_barOf e59) ?_
      refine r_istore (ls' := [(5, .int r59), (4, .int r22), (3, .int (σ.1 17 (Int32.toNatClampNeg x1))), (2, .int (σ.1 10 (Int32.toNatClampNeg (σ.1 12 (Int32.toNatClampNeg x1))))), (0, .ref (ya Z 0)), (1, .int x1)]) h d_M_isUnallowed_62 (by decide) rfl ?_
      refine r_iload h d_M_isUnallowed_64 0 rfl ?_
      refine r_iconst h d_M_isUnallowed_66 ki_1 ?_
      refine r_icmp_eq h d_M_isUnallowed_67 hf (fun hf => ?_) (fun hf => ?_)
      · refine r_iconst h d_M_isUnallowed_92 ki_1 ?_
        refine r_goto h d_M_isUnallowed_93 ?_
        exact r_zreturn h d_M_isUnallowed_97.1 ((show (1 : Int32) = bi true from rfl).trans (congrArg bi (Option.some.inj hf))) rfl
      · refine r_iload h d_M_isUnallowed_70 0 rfl ?_
        refine r_iconst h d_M_isUnallowed_72 ki_2 ?_
        refine r_icmp_ne h d_M_isUnallowed_73 hf (fun hf => ?_) (fun hf => ?_)
        · refine r_iconst h d_M_isUnallowed_96 ki_0 ?_
          exact r_zreturn h d_M_isUnallowed_97.1 ((show (0 : Int32) = bi false from rfl).trans (congrArg bi (Option.some.inj hf))) rfl
        · refine r_aload_n h d_M_isUnallowed_76 4 rfl rfl ?_
          refine r_iload_n h d_M_isUnallowed_77 3 rfl rfl ?_
          refine r_aload_n h d_M_isUnallowed_78 4 rfl rfl ?_
          refine r_getR h fd_YM_0_4 cf_M fl_M_7 d_M_isUnallowed_79 ?_
          refine r_iload h d_M_isUnallowed_82 1 rfl ?_
          refine r_iald h sh_YM_1 d_M_isUnallowed_84 hf (fun hf => ?_)
          refine r_iload_n h d_M_isUnallowed_85 2 rfl rfl ?_
          obtain ⟨r86, e86, hf⟩ := q_bind hf
          refine r_callV (As := [.int (σ.1 10 (Int32.toNatClampNeg (σ.1 12 (Int32.toNatClampNeg x1)))), .int (σ.1 1 (Int32.toNatClampNeg r22)), .int (σ.1 17 (Int32.toNatClampNeg x1))]) (rest := []) h sh_YM_0 lk_M_373 vk_M_373 d_M_isUnallowed_86 (by decide) rfl rfl (Nat.le_of_ble_eq_true rfl) (m_M_isLicensed e86) ?_
          refine r_bif_ne h d_M_isUnallowed_89 hf (fun hf => ?_) (fun hf => ?_)
          · refine r_iconst h d_M_isUnallowed_96 ki_0 ?_
            exact r_zreturn h d_M_isUnallowed_97.1 ((show (0 : Int32) = bi false from rfl).trans (congrArg bi (Option.some.inj hf))) rfl
          · refine r_iconst h d_M_isUnallowed_92 ki_1 ?_
            refine r_goto h d_M_isUnallowed_93 ?_
            exact r_zreturn h d_M_isUnallowed_97.1 ((show (1 : Int32) = bi true from rfl).trans (congrArg bi (Option.some.inj hf))) rfl
    · refine r_iconst h d_M_isUnallowed_42 ki_0 ?_
      exact r_zreturn h d_M_isUnallowed_43.1 ((show (0 : Int32) = bi false from rfl).trans (congrArg bi (Option.some.inj hf))) rfl

