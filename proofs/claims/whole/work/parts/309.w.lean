theorem d_M_walked_0 : decode c_M_walked 0 = .ok (.aload_n 0, 1) ∧ 0 + 1 = 1 := by decide +kernel
theorem d_M_walked_1 : decode c_M_walked 1 = .ok (.iload_n 2, 1) ∧ 1 + 1 = 2 := by decide +kernel
theorem d_M_walked_2 : decode c_M_walked 2 = .ok (.invokevirtual 237, 3) ∧ 2 + 3 = 5 := by decide +kernel
theorem d_M_walked_5 : decode c_M_walked 5 = .ok (.ifCond .ne 11, 3) ∧ 5 + 3 = 8 ∧ ((5 : Nat) : Int) + 11 = ((16 : Nat) : Int) := by decide +kernel
theorem d_M_walked_8 : decode c_M_walked 8 = .ok (.aload_n 0, 1) ∧ 8 + 1 = 9 := by decide +kernel
theorem d_M_walked_9 : decode c_M_walked 9 = .ok (.iload_n 1, 1) ∧ 9 + 1 = 10 := by decide +kernel
theorem d_M_walked_10 : decode c_M_walked 10 = .ok (.invokevirtual 433, 3) ∧ 10 + 3 = 13 := by decide +kernel
theorem d_M_walked_13 : decode c_M_walked 13 = .ok (.ifCond .eq 5, 3) ∧ 13 + 3 = 16 ∧ ((13 : Nat) : Int) + 5 = ((18 : Nat) : Int) := by decide +kernel
theorem d_M_walked_16 : decode c_M_walked 16 = .ok (.iconst (-1), 1) ∧ 16 + 1 = 17 := by decide +kernel
theorem d_M_walked_17 : decode c_M_walked 17 = .ok (.ireturn, 1) ∧ 17 + 1 = 18 := by decide +kernel
theorem d_M_walked_18 : decode c_M_walked 18 = .ok (.iload_n 3, 1) ∧ 18 + 1 = 19 := by decide +kernel
theorem d_M_walked_19 : decode c_M_walked 19 = .ok (.iload 4, 2) ∧ 19 + 2 = 21 := by decide +kernel
theorem d_M_walked_21 : decode c_M_walked 21 = .ok (.invokestatic 243, 3) ∧ 21 + 3 = 24 := by decide +kernel
theorem d_M_walked_24 : decode c_M_walked 24 = .ok (.ifCond .ne 6, 3) ∧ 24 + 3 = 27 ∧ ((24 : Nat) : Int) + 6 = ((30 : Nat) : Int) := by decide +kernel
theorem d_M_walked_27 : decode c_M_walked 27 = .ok (.bipush (-2), 2) ∧ 27 + 2 = 29 := by decide +kernel
theorem d_M_walked_29 : decode c_M_walked 29 = .ok (.ireturn, 1) ∧ 29 + 1 = 30 := by decide +kernel
theorem d_M_walked_30 : decode c_M_walked 30 = .ok (.iconst 0, 1) ∧ 30 + 1 = 31 := by decide +kernel
theorem d_M_walked_31 : decode c_M_walked 31 = .ok (.istore 5, 2) ∧ 31 + 2 = 33 := by decide +kernel
theorem d_M_walked_33 : decode c_M_walked 33 = .ok (.iload_n 3, 1) ∧ 33 + 1 = 34 := by decide +kernel
theorem d_M_walked_34 : decode c_M_walked 34 = .ok (.istore 6, 2) ∧ 34 + 2 = 36 := by decide +kernel
theorem d_M_walked_36 : decode c_M_walked 36 = .ok (.iload 5, 2) ∧ 36 + 2 = 38 := by decide +kernel
theorem d_M_walked_38 : decode c_M_walked 38 = .ok (.aload_n 0, 1) ∧ 38 + 1 = 39 := by decide +kernel
theorem d_M_walked_39 : decode c_M_walked 39 = .ok (.getfield 152, 3) ∧ 39 + 3 = 42 := by decide +kernel
theorem d_M_walked_42 : decode c_M_walked 42 = .ok (.iload_n 1, 1) ∧ 42 + 1 = 43 := by decide +kernel
theorem d_M_walked_43 : decode c_M_walked 43 = .ok (.iaload, 1) ∧ 43 + 1 = 44 := by decide +kernel
theorem d_M_walked_44 : decode c_M_walked 44 = .ok (.if_icmp .ge 173, 3) ∧ 44 + 3 = 47 ∧ ((44 : Nat) : Int) + 173 = ((217 : Nat) : Int) := by decide +kernel
theorem d_M_walked_47 : decode c_M_walked 47 = .ok (.iload 6, 2) ∧ 47 + 2 = 49 := by decide +kernel
theorem d_M_walked_49 : decode c_M_walked 49 = .ok (.iload 4, 2) ∧ 49 + 2 = 51 := by decide +kernel
theorem d_M_walked_51 : decode c_M_walked 51 = .ok (.if_icmp .gt 166, 3) ∧ 51 + 3 = 54 ∧ ((51 : Nat) : Int) + 166 = ((217 : Nat) : Int) := by decide +kernel
theorem d_M_walked_54 : decode c_M_walked 54 = .ok (.bipush (-9), 2) ∧ 54 + 2 = 56 := by decide +kernel
theorem d_M_walked_56 : decode c_M_walked 56 = .ok (.istore 7, 2) ∧ 56 + 2 = 58 := by decide +kernel
theorem d_M_walked_58 : decode c_M_walked 58 = .ok (.iconst 0, 1) ∧ 58 + 1 = 59 := by decide +kernel
theorem d_M_walked_59 : decode c_M_walked 59 = .ok (.istore 8, 2) ∧ 59 + 2 = 61 := by decide +kernel
theorem d_M_walked_61 : decode c_M_walked 61 = .ok (.iload 8, 2) ∧ 61 + 2 = 63 := by decide +kernel
theorem d_M_walked_63 : decode c_M_walked 63 = .ok (.aload_n 0, 1) ∧ 63 + 1 = 64 := by decide +kernel
theorem d_M_walked_64 : decode c_M_walked 64 = .ok (.getfield 247, 3) ∧ 64 + 3 = 67 := by decide +kernel
theorem d_M_walked_67 : decode c_M_walked 67 = .ok (.if_icmp .ge 87, 3) ∧ 67 + 3 = 70 ∧ ((67 : Nat) : Int) + 87 = ((154 : Nat) : Int) := by decide +kernel
theorem d_M_walked_70 : decode c_M_walked 70 = .ok (.aload_n 0, 1) ∧ 70 + 1 = 71 := by decide +kernel
theorem d_M_walked_71 : decode c_M_walked 71 = .ok (.getfield 22, 3) ∧ 71 + 3 = 74 := by decide +kernel
theorem d_M_walked_74 : decode c_M_walked 74 = .ok (.iload 8, 2) ∧ 74 + 2 = 76 := by decide +kernel
theorem d_M_walked_76 : decode c_M_walked 76 = .ok (.iaload, 1) ∧ 76 + 1 = 77 := by decide +kernel
theorem d_M_walked_77 : decode c_M_walked 77 = .ok (.iload_n 2, 1) ∧ 77 + 1 = 78 := by decide +kernel
theorem d_M_walked_78 : decode c_M_walked 78 = .ok (.if_icmp .ne 31, 3) ∧ 78 + 3 = 81 ∧ ((78 : Nat) : Int) + 31 = ((109 : Nat) : Int) := by decide +kernel
theorem d_M_walked_81 : decode c_M_walked 81 = .ok (.aload_n 0, 1) ∧ 81 + 1 = 82 := by decide +kernel
theorem d_M_walked_82 : decode c_M_walked 82 = .ok (.getfield 28, 3) ∧ 82 + 3 = 85 := by decide +kernel
theorem d_M_walked_85 : decode c_M_walked 85 = .ok (.iload 8, 2) ∧ 85 + 2 = 87 := by decide +kernel
theorem d_M_walked_87 : decode c_M_walked 87 = .ok (.iaload, 1) ∧ 87 + 1 = 88 := by decide +kernel
theorem d_M_walked_88 : decode c_M_walked 88 = .ok (.iload 6, 2) ∧ 88 + 2 = 90 := by decide +kernel
theorem d_M_walked_90 : decode c_M_walked 90 = .ok (.if_icmp .lt 19, 3) ∧ 90 + 3 = 93 ∧ ((90 : Nat) : Int) + 19 = ((109 : Nat) : Int) := by decide +kernel
theorem d_M_walked_93 : decode c_M_walked 93 = .ok (.aload_n 0, 1) ∧ 93 + 1 = 94 := by decide +kernel
theorem d_M_walked_94 : decode c_M_walked 94 = .ok (.getfield 31, 3) ∧ 94 + 3 = 97 := by decide +kernel
theorem d_M_walked_97 : decode c_M_walked 97 = .ok (.iload 8, 2) ∧ 97 + 2 = 99 := by decide +kernel
theorem d_M_walked_99 : decode c_M_walked 99 = .ok (.iaload, 1) ∧ 99 + 1 = 100 := by decide +kernel
theorem d_M_walked_100 : decode c_M_walked 100 = .ok (.iload 4, 2) ∧ 100 + 2 = 102 := by decide +kernel
theorem d_M_walked_102 : decode c_M_walked 102 = .ok (.if_icmp .gt 7, 3) ∧ 102 + 3 = 105 ∧ ((102 : Nat) : Int) + 7 = ((109 : Nat) : Int) := by decide +kernel
theorem d_M_walked_105 : decode c_M_walked 105 = .ok (.iconst 1, 1) ∧ 105 + 1 = 106 := by decide +kernel
theorem d_M_walked_106 : decode c_M_walked 106 = .ok (.goto 4, 3) ∧ (106 : Int) + 4 = (110 : Int) := by decide +kernel
theorem d_M_walked_109 : decode c_M_walked 109 = .ok (.iconst 0, 1) ∧ 109 + 1 = 110 := by decide +kernel
theorem d_M_walked_110 : decode c_M_walked 110 = .ok (.istore 9, 2) ∧ 110 + 2 = 112 := by decide +kernel
theorem d_M_walked_112 : decode c_M_walked 112 = .ok (.iload 9, 2) ∧ 112 + 2 = 114 := by decide +kernel
theorem d_M_walked_114 : decode c_M_walked 114 = .ok (.ifCond .eq 30, 3) ∧ 114 + 3 = 117 ∧ ((114 : Nat) : Int) + 30 = ((144 : Nat) : Int) := by decide +kernel
theorem d_M_walked_117 : decode c_M_walked 117 = .ok (.iload 7, 2) ∧ 117 + 2 = 119 := by decide +kernel
theorem d_M_walked_119 : decode c_M_walked 119 = .ok (.ifCond .lt 20, 3) ∧ 119 + 3 = 122 ∧ ((119 : Nat) : Int) + 20 = ((139 : Nat) : Int) := by decide +kernel
theorem d_M_walked_122 : decode c_M_walked 122 = .ok (.aload_n 0, 1) ∧ 122 + 1 = 123 := by decide +kernel
theorem d_M_walked_123 : decode c_M_walked 123 = .ok (.getfield 28, 3) ∧ 123 + 3 = 126 := by decide +kernel
theorem d_M_walked_126 : decode c_M_walked 126 = .ok (.iload 8, 2) ∧ 126 + 2 = 128 := by decide +kernel
theorem d_M_walked_128 : decode c_M_walked 128 = .ok (.iaload, 1) ∧ 128 + 1 = 129 := by decide +kernel
theorem d_M_walked_129 : decode c_M_walked 129 = .ok (.aload_n 0, 1) ∧ 129 + 1 = 130 := by decide +kernel
theorem d_M_walked_130 : decode c_M_walked 130 = .ok (.getfield 28, 3) ∧ 130 + 3 = 133 := by decide +kernel
theorem d_M_walked_133 : decode c_M_walked 133 = .ok (.iload 7, 2) ∧ 133 + 2 = 135 := by decide +kernel
theorem d_M_walked_135 : decode c_M_walked 135 = .ok (.iaload, 1) ∧ 135 + 1 = 136 := by decide +kernel
theorem d_M_walked_136 : decode c_M_walked 136 = .ok (.if_icmp .ge 8, 3) ∧ 136 + 3 = 139 ∧ ((136 : Nat) : Int) + 8 = ((144 : Nat) : Int) := by decide +kernel
theorem d_M_walked_139 : decode c_M_walked 139 = .ok (.iload 8, 2) ∧ 139 + 2 = 141 := by decide +kernel
theorem d_M_walked_141 : decode c_M_walked 141 = .ok (.goto 5, 3) ∧ (141 : Int) + 5 = (146 : Int) := by decide +kernel
theorem d_M_walked_144 : decode c_M_walked 144 = .ok (.iload 7, 2) ∧ 144 + 2 = 146 := by decide +kernel
theorem d_M_walked_146 : decode c_M_walked 146 = .ok (.istore 7, 2) ∧ 146 + 2 = 148 := by decide +kernel
theorem d_M_walked_148 : decode c_M_walked 148 = .ok (.iinc 8 1, 3) ∧ 148 + 3 = 151 := by decide +kernel
theorem d_M_walked_151 : decode c_M_walked 151 = .ok (.goto (-90), 3) ∧ (151 : Int) + (-90) = (61 : Int) := by decide +kernel
theorem d_M_walked_154 : decode c_M_walked 154 = .ok (.iload 7, 2) ∧ 154 + 2 = 156 := by decide +kernel
theorem d_M_walked_156 : decode c_M_walked 156 = .ok (.ifCond .lt 35, 3) ∧ 156 + 3 = 159 ∧ ((156 : Nat) : Int) + 35 = ((191 : Nat) : Int) := by decide +kernel
theorem d_M_walked_159 : decode c_M_walked 159 = .ok (.iload 5, 2) ∧ 159 + 2 = 161 := by decide +kernel
theorem d_M_walked_161 : decode c_M_walked 161 = .ok (.aload_n 0, 1) ∧ 161 + 1 = 162 := by decide +kernel
theorem d_M_walked_162 : decode c_M_walked 162 = .ok (.getfield 25, 3) ∧ 162 + 3 = 165 := by decide +kernel
theorem d_M_walked_165 : decode c_M_walked 165 = .ok (.iload 7, 2) ∧ 165 + 2 = 167 := by decide +kernel
theorem d_M_walked_167 : decode c_M_walked 167 = .ok (.iaload, 1) ∧ 167 + 1 = 168 := by decide +kernel
theorem d_M_walked_168 : decode c_M_walked 168 = .ok (.aload_n 0, 1) ∧ 168 + 1 = 169 := by decide +kernel
theorem d_M_walked_169 : decode c_M_walked 169 = .ok (.getfield 155, 3) ∧ 169 + 3 = 172 := by decide +kernel
theorem d_M_walked_172 : decode c_M_walked 172 = .ok (.bipush 8, 2) ∧ 172 + 2 = 174 := by decide +kernel
theorem d_M_walked_174 : decode c_M_walked 174 = .ok (.iload_n 1, 1) ∧ 174 + 1 = 175 := by decide +kernel
theorem d_M_walked_175 : decode c_M_walked 175 = .ok (.imul, 1) ∧ 175 + 1 = 176 := by decide +kernel
theorem d_M_walked_176 : decode c_M_walked 176 = .ok (.iload 5, 2) ∧ 176 + 2 = 178 := by decide +kernel
theorem d_M_walked_178 : decode c_M_walked 178 = .ok (.iadd, 1) ∧ 178 + 1 = 179 := by decide +kernel
theorem d_M_walked_179 : decode c_M_walked 179 = .ok (.iaload, 1) ∧ 179 + 1 = 180 := by decide +kernel
theorem d_M_walked_180 : decode c_M_walked 180 = .ok (.if_icmp .ne 7, 3) ∧ 180 + 3 = 183 ∧ ((180 : Nat) : Int) + 7 = ((187 : Nat) : Int) := by decide +kernel
theorem d_M_walked_183 : decode c_M_walked 183 = .ok (.iconst 1, 1) ∧ 183 + 1 = 184 := by decide +kernel
theorem d_M_walked_184 : decode c_M_walked 184 = .ok (.goto 4, 3) ∧ (184 : Int) + 4 = (188 : Int) := by decide +kernel
theorem d_M_walked_187 : decode c_M_walked 187 = .ok (.iconst 0, 1) ∧ 187 + 1 = 188 := by decide +kernel
theorem d_M_walked_188 : decode c_M_walked 188 = .ok (.iadd, 1) ∧ 188 + 1 = 189 := by decide +kernel
theorem d_M_walked_189 : decode c_M_walked 189 = .ok (.istore 5, 2) ∧ 189 + 2 = 191 := by decide +kernel
theorem d_M_walked_191 : decode c_M_walked 191 = .ok (.iload 7, 2) ∧ 191 + 2 = 193 := by decide +kernel
theorem d_M_walked_193 : decode c_M_walked 193 = .ok (.ifCond .ge 10, 3) ∧ 193 + 3 = 196 ∧ ((193 : Nat) : Int) + 10 = ((203 : Nat) : Int) := by decide +kernel
theorem d_M_walked_196 : decode c_M_walked 196 = .ok (.iload 4, 2) ∧ 196 + 2 = 198 := by decide +kernel
theorem d_M_walked_198 : decode c_M_walked 198 = .ok (.iconst 1, 1) ∧ 198 + 1 = 199 := by decide +kernel
theorem d_M_walked_199 : decode c_M_walked 199 = .ok (.iadd, 1) ∧ 199 + 1 = 200 := by decide +kernel
theorem d_M_walked_200 : decode c_M_walked 200 = .ok (.goto 12, 3) ∧ (200 : Int) + 12 = (212 : Int) := by decide +kernel
theorem d_M_walked_203 : decode c_M_walked 203 = .ok (.aload_n 0, 1) ∧ 203 + 1 = 204 := by decide +kernel
theorem d_M_walked_204 : decode c_M_walked 204 = .ok (.getfield 31, 3) ∧ 204 + 3 = 207 := by decide +kernel
theorem d_M_walked_207 : decode c_M_walked 207 = .ok (.iload 7, 2) ∧ 207 + 2 = 209 := by decide +kernel
theorem d_M_walked_209 : decode c_M_walked 209 = .ok (.iaload, 1) ∧ 209 + 1 = 210 := by decide +kernel
theorem d_M_walked_210 : decode c_M_walked 210 = .ok (.iconst 1, 1) ∧ 210 + 1 = 211 := by decide +kernel
theorem d_M_walked_211 : decode c_M_walked 211 = .ok (.iadd, 1) ∧ 211 + 1 = 212 := by decide +kernel
theorem d_M_walked_212 : decode c_M_walked 212 = .ok (.istore 6, 2) ∧ 212 + 2 = 214 := by decide +kernel
theorem d_M_walked_214 : decode c_M_walked 214 = .ok (.goto (-178), 3) ∧ (214 : Int) + (-178) = (36 : Int) := by decide +kernel
theorem d_M_walked_217 : decode c_M_walked 217 = .ok (.iload 5, 2) ∧ 217 + 2 = 219 := by decide +kernel
theorem d_M_walked_219 : decode c_M_walked 219 = .ok (.aload_n 0, 1) ∧ 219 + 1 = 220 := by decide +kernel
theorem d_M_walked_220 : decode c_M_walked 220 = .ok (.getfield 152, 3) ∧ 220 + 3 = 223 := by decide +kernel
theorem d_M_walked_223 : decode c_M_walked 223 = .ok (.iload_n 1, 1) ∧ 223 + 1 = 224 := by decide +kernel
theorem d_M_walked_224 : decode c_M_walked 224 = .ok (.iaload, 1) ∧ 224 + 1 = 225 := by decide +kernel
theorem d_M_walked_225 : decode c_M_walked 225 = .ok (.if_icmp .ne 7, 3) ∧ 225 + 3 = 228 ∧ ((225 : Nat) : Int) + 7 = ((232 : Nat) : Int) := by decide +kernel
theorem d_M_walked_228 : decode c_M_walked 228 = .ok (.iconst 1, 1) ∧ 228 + 1 = 229 := by decide +kernel
theorem d_M_walked_229 : decode c_M_walked 229 = .ok (.goto 4, 3) ∧ (229 : Int) + 4 = (233 : Int) := by decide +kernel
theorem d_M_walked_232 : decode c_M_walked 232 = .ok (.iconst 0, 1) ∧ 232 + 1 = 233 := by decide +kernel
theorem d_M_walked_233 : decode c_M_walked 233 = .ok (.ireturn, 1) ∧ 233 + 1 = 234 := by decide +kernel
set_option maxHeartbeats 4000000 in
theorem w_M_walked_L61 {Z : Sy} {Γ : Nat → List (Nat × Value) → List Value → St → Prop} {res : Int32} {x1 : Int32} {x2 : Int32} {x4 : Int32} {x5 : Int32} {x6 : Int32} {σ : St} {k36 : Int32 → Int32 → Option Int32} (h : IsG YM Z R_M c_M_walked 10 4 (some .int) (some (.int res)) σ Γ) (hk36 : ∀ (x5 : Int32) (x6 : Int32), k36 x5 x6 = some res → Γ 36 [(0, .ref (ya Z 0)), (1, .int x1), (2, .int x2), (4, .int x4), (5, .int x5), (6, .int x6)] [] σ) : ∀ (n : Nat) (x7 : Int32) (x8 : Int32), M_walked_L61 x1 x2 x4 x5 x6 σ k36 n x7 x8 = some res → Γ 61 [(0, .ref (ya Z 0)), (1, .int x1), (2, .int x2), (4, .int x4), (5, .int x5), (6, .int x6), (7, .int x7), (8, .int x8)] [] σ := by
  intro n
  induction n with
  | zero => intro x7 x8 hf; exact absurd hf (by simp [M_walked_L61])
  | succ n ih =>
    intro x7 x8 hf
    rw [M_walked_L61] at hf
    refine r_iload h d_M_walked_61 7 rfl ?_
    refine r_aload_n h d_M_walked_63 0 rfl rfl ?_
    refine r_getI h fd_YM_0_8 cf_M fl_M_247 d_M_walked_64 ?_
    refine r_icmp_ge h d_M_walked_67 hf (fun hf => ?_) (fun hf => ?_)
    · refine r_iload h d_M_walked_154 6 rfl ?_
      refine r_if_lt h d_M_walked_156 hf (fun hf => ?_) (fun hf => ?_)
      · refine r_iload h d_M_walked_191 6 rfl ?_
        refine r_if_ge h d_M_walked_193 hf (fun hf => ?_) (fun hf => ?_)
        · refine r_aload_n h d_M_walked_203 0 rfl rfl ?_
          refine r_getR h fd_YM_0_12 cf_M fl_M_31 d_M_walked_204 ?_
          refine r_iload h d_M_walked_207 6 rfl ?_
          refine r_iald h sh_YM_8 d_M_walked_209 hf (fun hf => ?_)
          refine r_iconst h d_M_walked_210 ki_1 ?_
          refine r_iadd h d_M_walked_211 ?_
          refine r_istore (ls' := [(6, .int ((σ.1 8 (Int32.toNatClampNeg x7)) + (1 : Int32))), (0, .ref (ya Z 0)), (1, .int x1), (2, .int x2), (4, .int x4), (5, .int x5), (7, .int x7), (8, .int x8)]) h d_M_walked_212 (by decide) rfl ?_
          refine r_goto h d_M_walked_214 ?_
          refine r_sub h [1, 2, 3, 4, 5, 0] rfl ?_
          exact hk36 _ _ hf
        · refine r_iload h d_M_walked_196 3 rfl ?_
          refine r_iconst h d_M_walked_198 ki_1 ?_
          refine r_iadd h d_M_walked_199 ?_
          refine r_goto h d_M_walked_200 ?_
          refine r_istore (ls' := [(6, .int (x4 + (1 : Int32))), (0, .ref (ya Z 0)), (1, .int x1), (2, .int x2), (4, .int x4), (5, .int x5), (7, .int x7), (8, .int x8)]) h d_M_walked_212 (by decide) rfl ?_
          refine r_goto h d_M_walked_214 ?_
          refine r_sub h [1, 2, 3, 4, 5, 0] rfl ?_
          exact hk36 _ _ hf
      · refine r_iload h d_M_walked_159 4 rfl ?_
        refine r_aload_n h d_M_walked_161 0 rfl rfl ?_
        refine r_getR h fd_YM_0_10 cf_M fl_M_25 d_M_walked_162 ?_
        refine r_iload h d_M_walked_165 6 rfl ?_
        refine r_iald h sh_YM_6 d_M_walked_167 hf (fun hf => ?_)
        refine r_aload_n h d_M_walked_168 0 rfl rfl ?_
        refine r_getR h fd_YM_0_62 cf_M fl_M_155 d_M_walked_169 ?_
        refine r_bipush h d_M_walked_172 kb_8 ?_
        refine r_iload_n h d_M_walked_174 1 rfl rfl ?_
        refine r_imul h d_M_walked_175 ?_
        refine r_iload h d_M_walked_176 4 rfl ?_
        refine r_iadd h d_M_walked_178 ?_
        refine r_iald h sh_YM_49 d_M_walked_179 hf (fun hf => ?_)
        refine r_icmp_ne h d_M_walked_180 hf (fun hf => ?_) (fun hf => ?_)
        · refine r_iconst h d_M_walked_187 ki_0 ?_
          refine r_iadd h d_M_walked_188 ?_
          refine r_istore (ls' := [(5, .int (x5 + (0 : Int32))), (0, .ref (ya Z 0)), (1, .int x1), (2, .int x2), (4, .int x4), (6, .int x6), (7, .int x7), (8, .int x8)]) h d_M_walked_189 (by decide) rfl ?_
          refine r_iload h d_M_walked_191 6 rfl ?_
          refine r_if_ge h d_M_walked_193 hf (fun hf => ?_) (fun hf => ?_)
          · refine r_aload_n h d_M_walked_203 1 rfl rfl ?_
            refine r_getR h fd_YM_0_12 cf_M fl_M_31 d_M_walked_204 ?_
            refine r_iload h d_M_walked_207 6 rfl ?_
            refine r_iald h sh_YM_8 d_M_walked_209 hf (fun hf => ?_)
            refine r_iconst h d_M_walked_210 ki_1 ?_
            refine r_iadd h d_M_walked_211 ?_
            refine r_istore (ls' := [(6, .int ((σ.1 8 (Int32.toNatClampNeg x7)) + (1 : Int32))), (5, .int (x5 + (0 : Int32))), (0, .ref (ya Z 0)), (1, .int x1), (2, .int x2), (4, .int x4), (7, .int x7), (8, .int x8)]) h d_M_walked_212 (by decide) rfl ?_
            refine r_goto h d_M_walked_214 ?_
            refine r_sub h [2, 3, 4, 5, 1, 0] rfl ?_
            exact hk36 _ _ hf
          · refine r_iload h d_M_walked_196 4 rfl ?_
            refine r_iconst h d_M_walked_198 ki_1 ?_
            refine r_iadd h d_M_walked_199 ?_
            refine r_goto h d_M_walked_200 ?_
            refine r_istore (ls' := [(6, .int (x4 + (1 : Int32))), (5, .int (x5 + (0 : Int32))), (0, .ref (ya Z 0)), (1, .int x1), (2, .int x2), (4, .int x4), (7, .int x7), (8, .int x8)]) h d_M_walked_212 (by decide) rfl ?_
            refine r_goto h d_M_walked_214 ?_
            refine r_sub h [2, 3, 4, 5, 1, 0] rfl ?_
            exact hk36 _ _ hf
        · refine r_iconst h d_M_walked_183 ki_1 ?_
          refine r_goto h d_M_walked_184 ?_
          refine r_iadd h d_M_walked_188 ?_
          refine r_istore (ls' := [(5, .int (x5 + (1 : Int32))), (0, .ref (ya Z 0)), (1, .int x1), (2, .int x2), (4, .int x4), (6, .int x6), (7, .int x7), (8, .int x8)]) h d_M_walked_189 (by decide) rfl ?_
          refine r_iload h d_M_walked_191 6 rfl ?_
          refine r_if_ge h d_M_walked_193 hf (fun hf => ?_) (fun hf => ?_)
          · refine r_aload_n h d_M_walked_203 1 rfl rfl ?_
            refine r_getR h fd_YM_0_12 cf_M fl_M_31 d_M_walked_204 ?_
            refine r_iload h d_M_walked_207 6 rfl ?_
            refine r_iald h sh_YM_8 d_M_walked_209 hf (fun hf => ?_)
            refine r_iconst h d_M_walked_210 ki_1 ?_
            refine r_iadd h d_M_walked_211 ?_
            refine r_istore (ls' := [(6, .int ((σ.1 8 (Int32.toNatClampNeg x7)) + (1 : Int32))), (5, .int (x5 + (1 : Int32))), (0, .ref (ya Z 0)), (1, .int x1), (2, .int x2), (4, .int x4), (7, .int x7), (8, .int x8)]) h d_M_walked_212 (by decide) rfl ?_
            refine r_goto h d_M_walked_214 ?_
            refine r_sub h [2, 3, 4, 5, 1, 0] rfl ?_
            exact hk36 _ _ hf
          · refine r_iload h d_M_walked_196 4 rfl ?_
            refine r_iconst h d_M_walked_198 ki_1 ?_
            refine r_iadd h d_M_walked_199 ?_
            refine r_goto h d_M_walked_200 ?_
            refine r_istore (ls' := [(6, .int (x4 + (1 : Int32))), (5, .int (x5 + (1 : Int32))), (0, .ref (ya Z 0)), (1, .int x1), (2, .int x2), (4, .int x4), (7, .int x7), (8, .int x8)]) h d_M_walked_212 (by decide) rfl ?_
            refine r_goto h d_M_walked_214 ?_
            refine r_sub h [2, 3, 4, 5, 1, 0] rfl ?_
            exact hk36 _ _ hf
    · refine r_aload_n h d_M_walked_70 0 rfl rfl ?_
      refine r_getR h fd_YM_0_9 cf_M fl_M_22 d_M_walked_71 ?_
      refine r_iload h d_M_walked_74 7 rfl ?_
      refine r_iald h sh_YM_5 d_M_walked_76 hf (fun hf => ?_)
      refine r_iload_n h d_M_walked_77 2 rfl rfl ?_
      refine r_icmp_ne h d_M_walked_78 hf (fun hf => ?_) (fun hf => ?_)
      · refine r_iconst h d_M_walked_109 ki_0 ?_
        refine r_istore (ls' := [(9, .int (0 : Int32)), (0, .ref (ya Z 0)), (1, .int x1), (2, .int x2), (4, .int x4), (5, .int x5), (6, .int x6), (7, .int x7), (8, .int x8)]) h d_M_walked_110 (by decide) rfl ?_
        refine r_iload h d_M_walked_112 0 rfl ?_
        refine r_if_eq_T h d_M_walked_114 (by decide) ?_
        refine r_iload h d_M_walked_144 7 rfl ?_
        refine r_istore (ls' := [(7, .int x7), (9, .int (0 : Int32)), (0, .ref (ya Z 0)), (1, .int x1), (2, .int x2), (4, .int x4), (5, .int x5), (6, .int x6), (8, .int x8)]) h d_M_walked_146 (by decide) rfl ?_
        refine r_iinc (ls' := [(8, .int (x8 + (1 : Int32))), (7, .int x7), (9, .int (0 : Int32)), (0, .ref (ya Z 0)), (1, .int x1), (2, .int x2), (4, .int x4), (5, .int x5), (6, .int x6)]) h d_M_walked_148 8 rfl ki_1 (by decide) rfl ?_
        refine r_goto h d_M_walked_151 ?_
        refine r_sub h [3, 4, 5, 6, 7, 8, 1, 0] rfl ?_
        exact ih _ _ hf
      · refine r_aload_n h d_M_walked_81 0 rfl rfl ?_
        refine r_getR h fd_YM_0_11 cf_M fl_M_28 d_M_walked_82 ?_
        refine r_iload h d_M_walked_85 7 rfl ?_
        refine r_iald h sh_YM_7 d_M_walked_87 hf (fun hf => ?_)
        refine r_iload h d_M_walked_88 5 rfl ?_
        refine r_icmp_lt h d_M_walked_90 hf (fun hf => ?_) (fun hf => ?_)
        · refine r_iconst h d_M_walked_109 ki_0 ?_
          refine r_istore (ls' := [(9, .int (0 : Int32)), (0, .ref (ya Z 0)), (1, .int x1), (2, .int x2), (4, .int x4), (5, .int x5), (6, .int x6), (7, .int x7), (8, .int x8)]) h d_M_walked_110 (by decide) rfl ?_
          refine r_iload h d_M_walked_112 0 rfl ?_
          refine r_if_eq_T h d_M_walked_114 (by decide) ?_
          refine r_iload h d_M_walked_144 7 rfl ?_
          refine r_istore (ls' := [(7, .int x7), (9, .int (0 : Int32)), (0, .ref (ya Z 0)), (1, .int x1), (2, .int x2), (4, .int x4), (5, .int x5), (6, .int x6), (8, .int x8)]) h d_M_walked_146 (by decide) rfl ?_
          refine r_iinc (ls' := [(8, .int (x8 + (1 : Int32))), (7, .int x7), (9, .int (0 : Int32)), (0, .ref (ya Z 0)), (1, .int x1), (2, .int x2), (4, .int x4), (5, .int x5), (6, .int x6)]) h d_M_walked_148 8 rfl ki_1 (by decide) rfl ?_
          refine r_goto h d_M_walked_151 ?_
          refine r_sub h [3, 4, 5, 6, 7, 8, 1, 0] rfl ?_
          exact ih _ _ hf
        · refine r_aload_n h d_M_walked_93 0 rfl rfl ?_
          refine r_getR h fd_YM_0_12 cf_M fl_M_31 d_M_walked_94 ?_
          refine r_iload h d_M_walked_97 7 rfl ?_
          refine r_iald h sh_YM_8 d_M_walked_99 hf (fun hf => ?_)
          refine r_iload h d_M_walked_100 3 rfl ?_
          refine r_icmp_gt h d_M_walked_102 hf (fun hf => ?_) (fun hf => ?_)
          · refine r_iconst h d_M_walked_109 ki_0 ?_
            refine r_istore (ls' := [(9, .int (0 : Int32)), (0, .ref (ya Z 0)), (1, .int x1), (2, .int x2), (4, .int x4), (5, .int x5), (6, .int x6), (7, .int x7), (8, .int x8)]) h d_M_walked_110 (by decide) rfl ?_
            refine r_iload h d_M_walked_112 0 rfl ?_
            refine r_if_eq_T h d_M_walked_114 (by decide) ?_
            refine r_iload h d_M_walked_144 7 rfl ?_
            refine r_istore (ls' := [(7, .int x7), (9, .int (0 : Int32)), (0, .ref (ya Z 0)), (1, .int x1), (2, .int x2), (4, .int x4), (5, .int x5), (6, .int x6), (8, .int x8)]) h d_M_walked_146 (by decide) rfl ?_
            refine r_iinc (ls' := [(8, .int (x8 + (1 : Int32))), (7, .int x7), (9, .int (0 : Int32)), (0, .ref (ya Z 0)), (1, .int x1), (2, .int x2), (4, .int x4), (5, .int x5), (6, .int x6)]) h d_M_walked_148 8 rfl ki_1 (by decide) rfl ?_
            refine r_goto h d_M_walked_151 ?_
            refine r_sub h [3, 4, 5, 6, 7, 8, 1, 0] rfl ?_
            exact ih _ _ hf
          · refine r_iconst h d_M_walked_105 ki_1 ?_
            refine r_goto h d_M_walked_106 ?_
            refine r_istore (ls' := [(9, .int (1 : Int32)), (0, .ref (ya Z 0)), (1, .int x1), (2, .int x2), (4, .int x4), (5, .int x5), (6, .int x6), (7, .int x7), (8, .int x8)]) h d_M_walked_110 (by decide) rfl ?_
            refine r_iload h d_M_walked_112 0 rfl ?_
            refine r_if_eq_F h d_M_walked_114 (by decide) ?_
            refine r_iload h d_M_walked_117 7 rfl ?_
            refine r_if_lt h d_M_walked_119 hf (fun hf => ?_) (fun hf => ?_)
            · refine r_iload h d_M_walked_139 8 rfl ?_
              refine r_goto h d_M_walked_141 ?_
              refine r_istore (ls' := [(7, .int x8), (9, .int (1 : Int32)), (0, .ref (ya Z 0)), (1, .int x1), (2, .int x2), (4, .int x4), (5, .int x5), (6, .int x6), (8, .int x8)]) h d_M_walked_146 (by decide) rfl ?_
              refine r_iinc (ls' := [(8, .int (x8 + (1 : Int32))), (7, .int x8), (9, .int (1 : Int32)), (0, .ref (ya Z 0)), (1, .int x1), (2, .int x2), (4, .int x4), (5, .int x5), (6, .int x6)]) h d_M_walked_148 8 rfl ki_1 (by decide) rfl ?_
              refine r_goto h d_M_walked_151 ?_
              refine r_sub h [3, 4, 5, 6, 7, 8, 1, 0] rfl ?_
              exact ih _ _ hf
            · refine r_aload_n h d_M_walked_122 1 rfl rfl ?_
              refine r_getR h fd_YM_0_11 cf_M fl_M_28 d_M_walked_123 ?_
              refine r_iload h d_M_walked_126 8 rfl ?_
              refine r_iald h sh_YM_7 d_M_walked_128 hf (fun hf => ?_)
              refine r_aload_n h d_M_walked_129 1 rfl rfl ?_
              refine r_getR h fd_YM_0_11 cf_M fl_M_28 d_M_walked_130 ?_
              refine r_iload h d_M_walked_133 7 rfl ?_
              refine r_iald h sh_YM_7 d_M_walked_135 hf (fun hf => ?_)
              refine r_icmp_ge h d_M_walked_136 hf (fun hf => ?_) (fun hf => ?_)
              · refine r_iload h d_M_walked_144 7 rfl ?_
                refine r_istore (ls' := [(7, .int x7), (9, .int (1 : Int32)), (0, .ref (ya Z 0)), (1, .int x1), (2, .int x2), (4, .int x4), (5, .int x5), (6, .int x6), (8, .int x8)]) h d_M_walked_146 (by decide) rfl ?_
                refine r_iinc (ls' := [(8, .int (x8 + (1 : Int32))), (7, .int x7), (9, .int (1 : Int32)), (0, .ref (ya Z 0)), (1, .int x1), (2, .int x2), (4, .int x4), (5, .int x5), (6, .int x6)]) h d_M_walked_148 8 rfl ki_1 (by decide) rfl ?_
                refine r_goto h d_M_walked_151 ?_
                refine r_sub h [3, 4, 5, 6, 7, 8, 1, 0] rfl ?_
                exact ih _ _ hf
              · refine r_iload h d_M_walked_139 8 rfl ?_
                refine r_goto h d_M_walked_141 ?_
                refine r_istore (ls' := [(7, .int x8), (9, .int (1 : Int32)), (0, .ref (ya Z 0)), (1, .int x1), (2, .int x2), (4, .int x4), (5, .int x5), (6, .int x6), (8, .int x8)]) h d_M_walked_146 (by decide) rfl ?_
                refine r_iinc (ls' := [(8, .int (x8 + (1 : Int32))), (7, .int x8), (9, .int (1 : Int32)), (0, .ref (ya Z 0)), (1, .int x1), (2, .int x2), (4, .int x4), (5, .int x5), (6, .int x6)]) h d_M_walked_148 8 rfl ki_1 (by decide) rfl ?_
                refine r_goto h d_M_walked_151 ?_
                refine r_sub h [3, 4, 5, 6, 7, 8, 1, 0] rfl ?_
                exact ih _ _ hf

set_option maxHeartbeats 4000000 in
theorem w_M_walked_L36 {Z : Sy} {Γ : Nat → List (Nat × Value) → List Value → St → Prop} {res : Int32} {x1 : Int32} {x2 : Int32} {x4 : Int32} {σ : St} (h : IsG YM Z R_M c_M_walked 10 4 (some .int) (some (.int res)) σ Γ) : ∀ (n : Nat) (x5 : Int32) (x6 : Int32), M_walked_L36 x1 x2 x4 σ n x5 x6 = some res → Γ 36 [(0, .ref (ya Z 0)), (1, .int x1), (2, .int x2), (4, .int x4), (5, .int x5), (6, .int x6)] [] σ := by
  intro n
  induction n with
  | zero => intro x5 x6 hf; exact absurd hf (by simp [M_walked_L36])
  | succ n ih =>
    intro x5 x6 hf
    rw [M_walked_L36] at hf
    refine r_iload h d_M_walked_36 4 rfl ?_
    refine r_aload_n h d_M_walked_38 0 rfl rfl ?_
    refine r_getR h fd_YM_0_61 cf_M fl_M_152 d_M_walked_39 ?_
    refine r_iload_n h d_M_walked_42 1 rfl rfl ?_
    refine r_iald h sh_YM_48 d_M_walked_43 hf (fun hf => ?_)
    refine r_icmp_ge h d_M_walked_44 hf (fun hf => ?_) (fun hf => ?_)
    · refine r_iload h d_M_walked_217 4 rfl ?_
      refine r_aload_n h d_M_walked_219 0 rfl rfl ?_
      refine r_getR h fd_YM_0_61 cf_M fl_M_152 d_M_walked_220 ?_
      refine r_iload_n h d_M_walked_223 1 rfl rfl ?_
      refine r_iald h sh_YM_48 d_M_walked_224 hf (fun hf => ?_)
      refine r_icmp_ne h d_M_walked_225 hf (fun hf => ?_) (fun hf => ?_)
      · refine r_iconst h d_M_walked_232 ki_0 ?_
        exact r_ireturn h d_M_walked_233.1 (Option.some.inj hf) rfl
      · refine r_iconst h d_M_walked_228 ki_1 ?_
        refine r_goto h d_M_walked_229 ?_
        exact r_ireturn h d_M_walked_233.1 (Option.some.inj hf) rfl
    · refine r_iload h d_M_walked_47 5 rfl ?_
      refine r_iload h d_M_walked_49 3 rfl ?_
      refine r_icmp_gt h d_M_walked_51 hf (fun hf => ?_) (fun hf => ?_)
      · refine r_iload h d_M_walked_217 4 rfl ?_
        refine r_aload_n h d_M_walked_219 0 rfl rfl ?_
        refine r_getR h fd_YM_0_61 cf_M fl_M_152 d_M_walked_220 ?_
        refine r_iload_n h d_M_walked_223 1 rfl rfl ?_
        refine r_iald h sh_YM_48 d_M_walked_224 hf (fun hf => ?_)
        refine r_icmp_ne h d_M_walked_225 hf (fun hf => ?_) (fun hf => ?_)
        · refine r_iconst h d_M_walked_232 ki_0 ?_
          exact r_ireturn h d_M_walked_233.1 (Option.some.inj hf) rfl
        · refine r_iconst h d_M_walked_228 ki_1 ?_
          refine r_goto h d_M_walked_229 ?_
          exact r_ireturn h d_M_walked_233.1 (Option.some.inj hf) rfl
      · refine r_bipush h d_M_walked_54 kb_m9 ?_
        refine r_istore (ls' := [(7, .int (-9 : Int32)), (0, .ref (ya Z 0)), (1, .int x1), (2, .int x2), (4, .int x4), (5, .int x5), (6, .int x6)]) h d_M_walked_56 (by decide) rfl ?_
        refine r_iconst h d_M_walked_58 ki_0 ?_
        refine r_istore (ls' := [(8, .int (0 : Int32)), (7, .int (-9 : Int32)), (0, .ref (ya Z 0)), (1, .int x1), (2, .int x2), (4, .int x4), (5, .int x5), (6, .int x6)]) h d_M_walked_59 (by decide) rfl ?_
        refine r_sub h [2, 3, 4, 5, 6, 7, 1, 0] rfl ?_
        exact w_M_walked_L61 h (fun y5 y6 hf => ih y5 y6 hf) _ _ _ hf

set_option maxHeartbeats 4000000 in
theorem m_M_walked {Z : Sy} {σ : St} {res : Int32} {x1 : Int32} {x2 : Int32} {x3 : Int32} {x4 : Int32} (hf : M_walked x1 x2 x3 x4 σ = some res) : Ct YM Z y_M_walked c_M_walked 10 (some .int) 4 [.ref (ya Z 0), .int x1, .int x2, .int x3, .int x4] σ (some (.int res)) σ := by
  refine Ct.of pn_M (Nat.le_of_ble_eq_true rfl) rfl (fun Γ h => ?_)
  have h : IsG YM Z R_M c_M_walked 10 4 (some .int) (some (.int res)) σ Γ := h
  unfold M_walked at hf
  refine r_aload_n h d_M_walked_0 0 rfl rfl ?_
  refine r_iload_n h d_M_walked_1 2 rfl rfl ?_
  obtain ⟨r2, e2, hf⟩ := q_bind hf
  refine r_callV (As := [.int x2]) (rest := []) h sh_YM_0 lk_M_237 vk_M_237 d_M_walked_2 (by decide) rfl rfl (Nat.le_of_ble_eq_true rfl) (m_M_noBand e2) ?_
  refine r_bif_ne h d_M_walked_5 hf (fun hf => ?_) (fun hf => ?_)
  · refine r_iconst h d_M_walked_16 ki_m1 ?_
    exact r_ireturn h d_M_walked_17.1 (Option.some.inj hf) rfl
  · refine r_aload_n h d_M_walked_8 0 rfl rfl ?_
    refine r_iload_n h d_M_walked_9 1 rfl rfl ?_
    obtain ⟨r10, e10, hf⟩ := q_bind hf
    refine r_callV (As := [.int x1]) (rest := []) h sh_YM_0 lk_M_433 vk_M_433 d_M_walked_10 (by decide) rfl rfl (Nat.le_of_ble_eq_true rfl) (m_M_noRound e10) ?_
    refine r_bif_eq h d_M_walked_13 hf (fun hf => ?_) (fun hf => ?_)
    · refine r_iload_n h d_M_walked_18 3 rfl rfl ?_
      refine r_iload h d_M_walked_19 4 rfl ?_
      obtain ⟨r21, e21, hf⟩ := q_bind hf
      refine r_callS (As := [.int x3, .int x4]) (rest := []) h lk_M_243 sk_M_243 d_M_walked_21 (by decide) rfl rfl (Nat.le_of_ble_eq_true rfl) (m_M_areDays e21) ?_
      refine r_bif_ne h d_M_walked_24 hf (fun hf => ?_) (fun hf => ?_)
      · refine r_iconst h d_M_walked_30 ki_0 ?_
        refine r_istore (ls' := [(5, .int (0 : Int32)), (0, .ref (ya Z 0)), (1, .int x1), (2, .int x2), (3, .int x3), (4, .int x4)]) h d_M_walked_31 (by decide) rfl ?_
        refine r_iload_n h d_M_walked_33 4 rfl rfl ?_
        refine r_istore (ls' := [(6, .int x3), (5, .int (0 : Int32)), (0, .ref (ya Z 0)), (1, .int x1), (2, .int x2), (3, .int x3), (4, .int x4)]) h d_M_walked_34 (by decide) rfl ?_
        refine r_sub h [2, 3, 4, 6, 1, 0] rfl ?_
        exact w_M_walked_L36 h _ _ _ hf
      · refine r_bipush h d_M_walked_27 kb_m2 ?_
        exact r_ireturn h d_M_walked_29.1 (Option.some.inj hf) rfl
    · refine r_iconst h d_M_walked_16 ki_m1 ?_
      exact r_ireturn h d_M_walked_17.1 (Option.some.inj hf) rfl

theorem d_M_offer_0 : decode c_M_offer 0 = .ok (.aload_n 0, 1) ∧ 0 + 1 = 1 := by decide +kernel
theorem d_M_offer_1 : decode c_M_offer 1 = .ok (.iload_n 1, 1) ∧ 1 + 1 = 2 := by decide +kernel
theorem d_M_offer_2 : decode c_M_offer 2 = .ok (.invokevirtual 237, 3) ∧ 2 + 3 = 5 := by decide +kernel
theorem d_M_offer_5 : decode c_M_offer 5 = .ok (.ifCond .ne 19, 3) ∧ 5 + 3 = 8 ∧ ((5 : Nat) : Int) + 19 = ((24 : Nat) : Int) := by decide +kernel
theorem d_M_offer_8 : decode c_M_offer 8 = .ok (.aload_n 0, 1) ∧ 8 + 1 = 9 := by decide +kernel
theorem d_M_offer_9 : decode c_M_offer 9 = .ok (.iload_n 2, 1) ∧ 9 + 1 = 10 := by decide +kernel
theorem d_M_offer_10 : decode c_M_offer 10 = .ok (.invokevirtual 263, 3) ∧ 10 + 3 = 13 := by decide +kernel
theorem d_M_offer_13 : decode c_M_offer 13 = .ok (.ifCond .ne 11, 3) ∧ 13 + 3 = 16 ∧ ((13 : Nat) : Int) + 11 = ((24 : Nat) : Int) := by decide +kernel
theorem d_M_offer_16 : decode c_M_offer 16 = .ok (.aload_n 0, 1) ∧ 16 + 1 = 17 := by decide +kernel
theorem d_M_offer_17 : decode c_M_offer 17 = .ok (.iload_n 3, 1) ∧ 17 + 1 = 18 := by decide +kernel
theorem d_M_offer_18 : decode c_M_offer 18 = .ok (.invokevirtual 433, 3) ∧ 18 + 3 = 21 := by decide +kernel
theorem d_M_offer_21 : decode c_M_offer 21 = .ok (.ifCond .eq 5, 3) ∧ 21 + 3 = 24 ∧ ((21 : Nat) : Int) + 5 = ((26 : Nat) : Int) := by decide +kernel
theorem d_M_offer_24 : decode c_M_offer 24 = .ok (.iconst (-1), 1) ∧ 24 + 1 = 25 := by decide +kernel
theorem d_M_offer_25 : decode c_M_offer 25 = .ok (.ireturn, 1) ∧ 25 + 1 = 26 := by decide +kernel
theorem d_M_offer_26 : decode c_M_offer 26 = .ok (.iload 4, 2) ∧ 26 + 2 = 28 := by decide +kernel
theorem d_M_offer_28 : decode c_M_offer 28 = .ok (.i2l, 1) ∧ 28 + 1 = 29 := by decide +kernel
theorem d_M_offer_29 : decode c_M_offer 29 = .ok (.lconst 0, 1) ∧ 29 + 1 = 30 := by decide +kernel
theorem d_M_offer_30 : decode c_M_offer 30 = .ok (.ldc2_w 439, 3) ∧ 30 + 3 = 33 := by decide +kernel
theorem d_M_offer_33 : decode c_M_offer 33 = .ok (.invokestatic 201, 3) ∧ 33 + 3 = 36 := by decide +kernel
theorem d_M_offer_36 : decode c_M_offer 36 = .ok (.ifCond .eq 18, 3) ∧ 36 + 3 = 39 ∧ ((36 : Nat) : Int) + 18 = ((54 : Nat) : Int) := by decide +kernel
theorem d_M_offer_39 : decode c_M_offer 39 = .ok (.iload 5, 2) ∧ 39 + 2 = 41 := by decide +kernel
theorem d_M_offer_41 : decode c_M_offer 41 = .ok (.i2l, 1) ∧ 41 + 1 = 42 := by decide +kernel
theorem d_M_offer_42 : decode c_M_offer 42 = .ok (.ldc2_w 441, 3) ∧ 42 + 3 = 45 := by decide +kernel
theorem d_M_offer_45 : decode c_M_offer 45 = .ok (.ldc2_w 395, 3) ∧ 45 + 3 = 48 := by decide +kernel
theorem d_M_offer_48 : decode c_M_offer 48 = .ok (.invokestatic 201, 3) ∧ 48 + 3 = 51 := by decide +kernel
theorem d_M_offer_51 : decode c_M_offer 51 = .ok (.ifCond .ne 6, 3) ∧ 51 + 3 = 54 ∧ ((51 : Nat) : Int) + 6 = ((57 : Nat) : Int) := by decide +kernel
theorem d_M_offer_54 : decode c_M_offer 54 = .ok (.bipush (-2), 2) ∧ 54 + 2 = 56 := by decide +kernel
theorem d_M_offer_56 : decode c_M_offer 56 = .ok (.ireturn, 1) ∧ 56 + 1 = 57 := by decide +kernel
theorem d_M_offer_57 : decode c_M_offer 57 = .ok (.aload_n 0, 1) ∧ 57 + 1 = 58 := by decide +kernel
theorem d_M_offer_58 : decode c_M_offer 58 = .ok (.getfield 443, 3) ∧ 58 + 3 = 61 := by decide +kernel
theorem d_M_offer_61 : decode c_M_offer 61 = .ok (.bipush 9, 2) ∧ 61 + 2 = 63 := by decide +kernel
theorem d_M_offer_63 : decode c_M_offer 63 = .ok (.if_icmp .ne 6, 3) ∧ 63 + 3 = 66 ∧ ((63 : Nat) : Int) + 6 = ((69 : Nat) : Int) := by decide +kernel
theorem d_M_offer_66 : decode c_M_offer 66 = .ok (.bipush (-4), 2) ∧ 66 + 2 = 68 := by decide +kernel
theorem d_M_offer_68 : decode c_M_offer 68 = .ok (.ireturn, 1) ∧ 68 + 1 = 69 := by decide +kernel
theorem d_M_offer_69 : decode c_M_offer 69 = .ok (.aload_n 0, 1) ∧ 69 + 1 = 70 := by decide +kernel
theorem d_M_offer_70 : decode c_M_offer 70 = .ok (.getfield 170, 3) ∧ 70 + 3 = 73 := by decide +kernel
theorem d_M_offer_73 : decode c_M_offer 73 = .ok (.aload_n 0, 1) ∧ 73 + 1 = 74 := by decide +kernel
theorem d_M_offer_74 : decode c_M_offer 74 = .ok (.getfield 443, 3) ∧ 74 + 3 = 77 := by decide +kernel
theorem d_M_offer_77 : decode c_M_offer 77 = .ok (.iload_n 1, 1) ∧ 77 + 1 = 78 := by decide +kernel
theorem d_M_offer_78 : decode c_M_offer 78 = .ok (.iastore, 1) ∧ 78 + 1 = 79 := by decide +kernel
theorem d_M_offer_79 : decode c_M_offer 79 = .ok (.aload_n 0, 1) ∧ 79 + 1 = 80 := by decide +kernel
theorem d_M_offer_80 : decode c_M_offer 80 = .ok (.getfield 173, 3) ∧ 80 + 3 = 83 := by decide +kernel
theorem d_M_offer_83 : decode c_M_offer 83 = .ok (.aload_n 0, 1) ∧ 83 + 1 = 84 := by decide +kernel
theorem d_M_offer_84 : decode c_M_offer 84 = .ok (.getfield 443, 3) ∧ 84 + 3 = 87 := by decide +kernel
theorem d_M_offer_87 : decode c_M_offer 87 = .ok (.iload_n 2, 1) ∧ 87 + 1 = 88 := by decide +kernel
theorem d_M_offer_88 : decode c_M_offer 88 = .ok (.iastore, 1) ∧ 88 + 1 = 89 := by decide +kernel
theorem d_M_offer_89 : decode c_M_offer 89 = .ok (.aload_n 0, 1) ∧ 89 + 1 = 90 := by decide +kernel
theorem d_M_offer_90 : decode c_M_offer 90 = .ok (.getfield 176, 3) ∧ 90 + 3 = 93 := by decide +kernel
theorem d_M_offer_93 : decode c_M_offer 93 = .ok (.aload_n 0, 1) ∧ 93 + 1 = 94 := by decide +kernel
theorem d_M_offer_94 : decode c_M_offer 94 = .ok (.getfield 443, 3) ∧ 94 + 3 = 97 := by decide +kernel
theorem d_M_offer_97 : decode c_M_offer 97 = .ok (.iload_n 3, 1) ∧ 97 + 1 = 98 := by decide +kernel
theorem d_M_offer_98 : decode c_M_offer 98 = .ok (.iastore, 1) ∧ 98 + 1 = 99 := by decide +kernel
theorem d_M_offer_99 : decode c_M_offer 99 = .ok (.aload_n 0, 1) ∧ 99 + 1 = 100 := by decide +kernel
theorem d_M_offer_100 : decode c_M_offer 100 = .ok (.getfield 179, 3) ∧ 100 + 3 = 103 := by decide +kernel
theorem d_M_offer_103 : decode c_M_offer 103 = .ok (.aload_n 0, 1) ∧ 103 + 1 = 104 := by decide +kernel
theorem d_M_offer_104 : decode c_M_offer 104 = .ok (.getfield 443, 3) ∧ 104 + 3 = 107 := by decide +kernel
theorem d_M_offer_107 : decode c_M_offer 107 = .ok (.iload 4, 2) ∧ 107 + 2 = 109 := by decide +kernel
theorem d_M_offer_109 : decode c_M_offer 109 = .ok (.iastore, 1) ∧ 109 + 1 = 110 := by decide +kernel
theorem d_M_offer_110 : decode c_M_offer 110 = .ok (.aload_n 0, 1) ∧ 110 + 1 = 111 := by decide +kernel
theorem d_M_offer_111 : decode c_M_offer 111 = .ok (.getfield 182, 3) ∧ 111 + 3 = 114 := by decide +kernel
theorem d_M_offer_114 : decode c_M_offer 114 = .ok (.aload_n 0, 1) ∧ 114 + 1 = 115 := by decide +kernel
theorem d_M_offer_115 : decode c_M_offer 115 = .ok (.getfield 443, 3) ∧ 115 + 3 = 118 := by decide +kernel
theorem d_M_offer_118 : decode c_M_offer 118 = .ok (.iload 5, 2) ∧ 118 + 2 = 120 := by decide +kernel
theorem d_M_offer_120 : decode c_M_offer 120 = .ok (.iastore, 1) ∧ 120 + 1 = 121 := by decide +kernel
theorem d_M_offer_121 : decode c_M_offer 121 = .ok (.aload_n 0, 1) ∧ 121 + 1 = 122 := by decide +kernel
theorem d_M_offer_122 : decode c_M_offer 122 = .ok (.dup, 1) ∧ 122 + 1 = 123 := by decide +kernel
theorem d_M_offer_123 : decode c_M_offer 123 = .ok (.getfield 443, 3) ∧ 123 + 3 = 126 := by decide +kernel
theorem d_M_offer_126 : decode c_M_offer 126 = .ok (.iconst 1, 1) ∧ 126 + 1 = 127 := by decide +kernel
theorem d_M_offer_127 : decode c_M_offer 127 = .ok (.iadd, 1) ∧ 127 + 1 = 128 := by decide +kernel
theorem d_M_offer_128 : decode c_M_offer 128 = .ok (.putfield 443, 3) ∧ 128 + 3 = 131 := by decide +kernel
theorem d_M_offer_131 : decode c_M_offer 131 = .ok (.aload_n 0, 1) ∧ 131 + 1 = 132 := by decide +kernel
theorem d_M_offer_132 : decode c_M_offer 132 = .ok (.getfield 443, 3) ∧ 132 + 3 = 135 := by decide +kernel
theorem d_M_offer_135 : decode c_M_offer 135 = .ok (.iconst 1, 1) ∧ 135 + 1 = 136 := by decide +kernel
theorem d_M_offer_136 : decode c_M_offer 136 = .ok (.isub, 1) ∧ 136 + 1 = 137 := by decide +kernel
theorem d_M_offer_137 : decode c_M_offer 137 = .ok (.ireturn, 1) ∧ 137 + 1 = 138 := by decide +kernel
set_option maxHeartbeats 4000000 in
theorem m_M_offer {Z : Sy} {σ : St} {res : (Int32 × St)} {x1 : Int32} {x2 : Int32} {x3 : Int32} {x4 : Int32} {x5 : Int32} (hf : M_offer x1 x2 x3 x4 x5 σ = some res) : Ct YM Z y_M_offer c_M_offer 6 (some .int) 3 [.ref (ya Z 0), .int x1, .int x2, .int x3, .int x4, .int x5] σ (some (.int res.1)) res.2 := by
  refine Ct.of pn_M (Nat.le_of_ble_eq_true rfl) rfl (fun Γ h => ?_)
  have h : IsG YM Z R_M c_M_offer 6 3 (some .int) (some (.int res.1)) res.2 Γ := h
  unfold M_offer at hf
  refine r_aload_n h d_M_offer_0 0 rfl rfl ?_
  refine r_iload_n h d_M_offer_1 1 rfl rfl ?_
  obtain ⟨r2, e2, hf⟩ := q_bind hf
  refine r_callV (As := [.int x1]) (rest := []) h sh_YM_0 lk_M_237 vk_M_237 d_M_offer_2 (by decide) rfl rfl (Nat.le_of_ble_eq_true rfl) (m_M_noBand e2) ?_
  refine r_bif_ne h d_M_offer_5 hf (fun hf => ?_) (fun hf => ?_)
  · refine r_iconst h d_M_offer_24 ki_m1 ?_
    exact r_ireturn h d_M_offer_25.1 (q_p1 hf) (q_p2 hf)
  · refine r_aload_n h d_M_offer_8 0 rfl rfl ?_
    refine r_iload_n h d_M_offer_9 2 rfl rfl ?_
    obtain ⟨r10, e10, hf⟩ := q_bind hf
    refine r_callV (As := [.int x2]) (rest := []) h sh_YM_0 lk_M_263 vk_M_263 d_M_offer_10 (by decide) rfl rfl (Nat.le_of_ble_eq_true rfl) (m_M_noHouse e10) ?_
    refine r_bif_ne h d_M_offer_13 hf (fun hf => ?_) (fun hf => ?_)
    · refine r_iconst h d_M_offer_24 ki_m1 ?_
      exact r_ireturn h d_M_offer_25.1 (q_p1 hf) (q_p2 hf)
    · refine r_aload_n h d_M_offer_16 0 rfl rfl ?_
      refine r_iload_n h d_M_offer_17 3 rfl rfl ?_
      obtain ⟨r18, e18, hf⟩ := q_bind hf
      refine r_callV (As := [.int x3]) (rest := []) h sh_YM_0 lk_M_433 vk_M_433 d_M_offer_18 (by decide) rfl rfl (Nat.le_of_ble_eq_true rfl) (m_M_noRound e18) ?_
      refine r_bif_eq h d_M_offer_21 hf (fun hf => ?_) (fun hf => ?_)
      · refine r_iload h d_M_offer_26 4 rfl ?_
        refine r_i2l h d_M_offer_28 ?_
        refine r_lconst h d_M_offer_29 kl_0 ?_
        refine r_ldc2 h d_M_offer_30 tm_1770 ?_
        obtain ⟨r33, e33, hf⟩ := q_bind hf
        refine r_callS (As := [.long (Int32.toInt64 x4), .long (0 : Int64), .long (999999 : Int64)]) (rest := []) h lk_M_201 sk_M_201 d_M_offer_33 (by decide) rfl rfl (Nat.le_of_ble_eq_true rfl) (m_M_in e33) ?_
        refine r_bif_eq h d_M_offer_36 hf (fun hf => ?_) (fun hf => ?_)
        · refine r_bipush h d_M_offer_54 kb_m2 ?_
          exact r_ireturn h d_M_offer_56.1 (q_p1 hf) (q_p2 hf)
        · refine r_iload h d_M_offer_39 5 rfl ?_
          refine r_i2l h d_M_offer_41 ?_
          refine r_ldc2 h d_M_offer_42 tm_1771 ?_
          refine r_ldc2 h d_M_offer_45 tm_1671 ?_
          obtain ⟨r48, e48, hf⟩ := q_bind hf
          refine r_callS (As := [.long (Int32.toInt64 x5), .long (-99999 : Int64), .long (99999 : Int64)]) (rest := []) h lk_M_201 sk_M_201 d_M_offer_48 (by decide) rfl rfl (Nat.le_of_ble_eq_true rfl) (m_M_in e48) ?_
          refine r_bif_ne h d_M_offer_51 hf (fun hf => ?_) (fun hf => ?_)
          · refine r_aload_n h d_M_offer_57 0 rfl rfl ?_
            refine r_getI h fd_YM_0_68 cf_M fl_M_443 d_M_offer_58 ?_
            refine r_bipush h d_M_offer_61 kb_9 ?_
            refine r_icmp_ne h d_M_offer_63 hf (fun hf => ?_) (fun hf => ?_)
            · refine r_aload_n h d_M_offer_69 0 rfl rfl ?_
              refine r_getR h fd_YM_0_69 cf_M fl_M_170 d_M_offer_70 ?_
              refine r_aload_n h d_M_offer_73 0 rfl rfl ?_
              refine r_getI h fd_YM_0_68 cf_M fl_M_443 d_M_offer_74 ?_
              refine r_iload_n h d_M_offer_77 1 rfl rfl ?_
              refine r_iast h sh_YM_54 d_M_offer_78 hf (fun hf => ?_)
              refine r_aload_n h d_M_offer_79 0 rfl rfl ?_
              refine r_getR h fd_YM_0_70 cf_M fl_M_173 d_M_offer_80 ?_
              refine r_aload_n h d_M_offer_83 0 rfl rfl ?_
              refine r_getIv (v := (σ.1 0 68)) h fd_YM_0_68 cf_M fl_M_443 d_M_offer_84 rfl ?_
              refine r_iload_n h d_M_offer_87 2 rfl rfl ?_
              refine r_iast h sh_YM_55 d_M_offer_88 hf (fun hf => ?_)
              refine r_aload_n h d_M_offer_89 0 rfl rfl ?_
              refine r_getR h fd_YM_0_71 cf_M fl_M_176 d_M_offer_90 ?_
              refine r_aload_n h d_M_offer_93 0 rfl rfl ?_
              refine r_getIv (v := (σ.1 0 68)) h fd_YM_0_68 cf_M fl_M_443 d_M_offer_94 rfl ?_
              refine r_iload_n h d_M_offer_97 3 rfl rfl ?_
              refine r_iast h sh_YM_56 d_M_offer_98 hf (fun hf => ?_)
              refine r_aload_n h d_M_offer_99 0 rfl rfl ?_
              refine r_getR h fd_YM_0_72 cf_M fl_M_179 d_M_offer_100 ?_
              refine r_aload_n h d_M_offer_103 0 rfl rfl ?_
              refine r_getIv (v := (σ.1 0 68)) h fd_YM_0_68 cf_M fl_M_443 d_M_offer_104 rfl ?_
              refine r_iload h d_M_offer_107 4 rfl ?_
              refine r_iast h sh_YM_57 d_M_offer_109 hf (fun hf => ?_)
              refine r_aload_n h d_M_offer_110 0 rfl rfl ?_
              refine r_getR h fd_YM_0_73 cf_M fl_M_182 d_M_offer_111 ?_
              refine r_aload_n h d_M_offer_114 0 rfl rfl ?_
              refine r_getIv (v := (σ.1 0 68)) h fd_YM_0_68 cf_M fl_M_443 d_M_offer_115 rfl ?_
              refine r_iload h d_M_offer_118 5 rfl ?_
              refine r_iast h sh_YM_58 d_M_offer_120 hf (fun hf => ?_)
              refine r_aload_n h d_M_offer_121 0 rfl rfl ?_
              refine r_dup h d_M_offer_122 rfl ?_
              refine r_getIv (v := (σ.1 0 68)) h fd_YM_0_68 cf_M fl_M_443 d_M_offer_123 rfl ?_
              refine r_iconst h d_M_offer_126 ki_1 ?_
              refine r_iadd h d_M_offer_127 ?_
              refine r_putI h fd_YM_0_68 cf_M fl_M_443 ⟨rfl, rfl⟩ d_M_offer_128 ?_
              refine r_aload_n h d_M_offer_131 0 rfl rfl ?_
              refine r_getIv (v := ((σ.1 0 68) + (1 : Int32))) h fd_YM_0_68 cf_M fl_M_443 d_M_offer_132 rfl ?_
              refine r_iconst h d_M_offer_135 ki_1 ?_
              refine r_isub h d_M_offer_136 ?_
              exact r_ireturn h d_M_offer_137.1 (q_p1 hf) (q_p2 hf)
            · refine r_bipush h d_M_offer_66 kb_m4 ?_
              exact r_ireturn h d_M_offer_68.1 (q_p1 hf) (q_p2 hf)
          · refine r_bipush h d_M_offer_54 kb_m2 ?_
            exact r_ireturn h d_M_offer_56.1 (q_p1 hf) (q_p2 hf)
      · refine r_iconst h d_M_offer_24 ki_m1 ?_
        exact r_ireturn h d_M_offer_25.1 (q_p1 hf) (q_p2 hf)

theorem d_M_gainOf_0 : decode c_M_gainOf 0 = .ok (.iconst 0, 1) ∧ 0 + 1 = 1 := by decide +kernel
theorem d_M_gainOf_1 : decode c_M_gainOf 1 = .ok (.istore_n 2, 1) ∧ 1 + 1 = 2 := by decide +kernel
theorem d_M_gainOf_2 : decode c_M_gainOf 2 = .ok (.iconst 0, 1) ∧ 2 + 1 = 3 := by decide +kernel
theorem d_M_gainOf_3 : decode c_M_gainOf 3 = .ok (.istore_n 3, 1) ∧ 3 + 1 = 4 := by decide +kernel
theorem d_M_gainOf_4 : decode c_M_gainOf 4 = .ok (.iload_n 3, 1) ∧ 4 + 1 = 5 := by decide +kernel
theorem d_M_gainOf_5 : decode c_M_gainOf 5 = .ok (.aload_n 0, 1) ∧ 5 + 1 = 6 := by decide +kernel
theorem d_M_gainOf_6 : decode c_M_gainOf 6 = .ok (.getfield 443, 3) ∧ 6 + 3 = 9 := by decide +kernel
theorem d_M_gainOf_9 : decode c_M_gainOf 9 = .ok (.if_icmp .ge 31, 3) ∧ 9 + 3 = 12 ∧ ((9 : Nat) : Int) + 31 = ((40 : Nat) : Int) := by decide +kernel
theorem d_M_gainOf_12 : decode c_M_gainOf 12 = .ok (.iload_n 2, 1) ∧ 12 + 1 = 13 := by decide +kernel
theorem d_M_gainOf_13 : decode c_M_gainOf 13 = .ok (.iload_n 1, 1) ∧ 13 + 1 = 14 := by decide +kernel
theorem d_M_gainOf_14 : decode c_M_gainOf 14 = .ok (.i2l, 1) ∧ 14 + 1 = 15 := by decide +kernel
theorem d_M_gainOf_15 : decode c_M_gainOf 15 = .ok (.iload_n 3, 1) ∧ 15 + 1 = 16 := by decide +kernel
theorem d_M_gainOf_16 : decode c_M_gainOf 16 = .ok (.invokestatic 319, 3) ∧ 16 + 3 = 19 := by decide +kernel
theorem d_M_gainOf_19 : decode c_M_gainOf 19 = .ok (.ifCond .eq 12, 3) ∧ 19 + 3 = 22 ∧ ((19 : Nat) : Int) + 12 = ((31 : Nat) : Int) := by decide +kernel
theorem d_M_gainOf_22 : decode c_M_gainOf 22 = .ok (.aload_n 0, 1) ∧ 22 + 1 = 23 := by decide +kernel
theorem d_M_gainOf_23 : decode c_M_gainOf 23 = .ok (.getfield 182, 3) ∧ 23 + 3 = 26 := by decide +kernel
theorem d_M_gainOf_26 : decode c_M_gainOf 26 = .ok (.iload_n 3, 1) ∧ 26 + 1 = 27 := by decide +kernel
theorem d_M_gainOf_27 : decode c_M_gainOf 27 = .ok (.iaload, 1) ∧ 27 + 1 = 28 := by decide +kernel
theorem d_M_gainOf_28 : decode c_M_gainOf 28 = .ok (.goto 4, 3) ∧ (28 : Int) + 4 = (32 : Int) := by decide +kernel
theorem d_M_gainOf_31 : decode c_M_gainOf 31 = .ok (.iconst 0, 1) ∧ 31 + 1 = 32 := by decide +kernel
theorem d_M_gainOf_32 : decode c_M_gainOf 32 = .ok (.iadd, 1) ∧ 32 + 1 = 33 := by decide +kernel
theorem d_M_gainOf_33 : decode c_M_gainOf 33 = .ok (.istore_n 2, 1) ∧ 33 + 1 = 34 := by decide +kernel
theorem d_M_gainOf_34 : decode c_M_gainOf 34 = .ok (.iinc 3 1, 3) ∧ 34 + 3 = 37 := by decide +kernel
theorem d_M_gainOf_37 : decode c_M_gainOf 37 = .ok (.goto (-33), 3) ∧ (37 : Int) + (-33) = (4 : Int) := by decide +kernel
theorem d_M_gainOf_40 : decode c_M_gainOf 40 = .ok (.iload_n 2, 1) ∧ 40 + 1 = 41 := by decide +kernel
theorem d_M_gainOf_41 : decode c_M_gainOf 41 = .ok (.ireturn, 1) ∧ 41 + 1 = 42 := by decide +kernel
set_option maxHeartbeats 4000000 in
theorem w_M_gainOf_L4 {Z : Sy} {Γ : Nat → List (Nat × Value) → List Value → St → Prop} {res : Int32} {x1 : Int32} {σ : St} (h : IsG YM Z R_M c_M_gainOf 4 2 (some .int) (some (.int res)) σ Γ) : ∀ (n : Nat) (x2 : Int32) (x3 : Int32), M_gainOf_L4 x1 σ n x2 x3 = some res → Γ 4 [(0, .ref (ya Z 0)), (1, .int x1), (2, .int x2), (3, .int x3)] [] σ := by
  intro n
  induction n with
  | zero => intro x2 x3 hf; exact absurd hf (by simp [M_gainOf_L4])
  | succ n ih =>
    intro x2 x3 hf
    rw [M_gainOf_L4] at hf
    refine r_iload_n h d_M_gainOf_4 3 rfl rfl ?_
    refine r_aload_n h d_M_gainOf_5 0 rfl rfl ?_
    refine r_getI h fd_YM_0_68 cf_M fl_M_443 d_M_gainOf_6 ?_
    refine r_icmp_ge h d_M_gainOf_9 hf (fun hf => ?_) (fun hf => ?_)
    · refine r_iload_n h d_M_gainOf_40 2 rfl rfl ?_
      exact r_ireturn h d_M_gainOf_41.1 (Option.some.inj hf) rfl
    · refine r_iload_n h d_M_gainOf_12 2 rfl rfl ?_
      refine r_iload_n h d_M_gainOf_13 1 rfl rfl ?_
      refine r_i2l h d_M_gainOf_14 ?_
      refine r_iload_n h d_M_gainOf_15 3 rfl rfl ?_
      obtain ⟨r16, e16, hf⟩ := q_bind hf
      refine r_callS (As := [.long (Int32.toInt64 x1), .int x3]) (rest := [.int x2]) h lk_M_319 sk_M_319 d_M_gainOf_16 (by decide) rfl rfl (Nat.le_of_ble_eq_true rfl) (m_M_hasBit e16) ?_
      refine r_bif_eq h d_M_gainOf_19 hf (fun hf => ?_) (fun hf => ?_)
      · refine r_iconst h d_M_gainOf_31 ki_0 ?_
        refine r_iadd h d_M_gainOf_32 ?_
        refine r_istore_n (ls' := [(2, .int (x2 + (0 : Int32))), (0, .ref (ya Z 0)), (1, .int x1), (3, .int x3)]) h d_M_gainOf_33 rfl (by decide) rfl ?_
        refine r_iinc (ls' := [(3, .int (x3 + (1 : Int32))), (2, .int (x2 + (0 : Int32))), (0, .ref (ya Z 0)), (1, .int x1)]) h d_M_gainOf_34 3 rfl ki_1 (by decide) rfl ?_
        refine r_goto h d_M_gainOf_37 ?_
        refine r_sub h [2, 3, 1, 0] rfl ?_
        exact ih _ _ hf
      · refine r_aload_n h d_M_gainOf_22 0 rfl rfl ?_
        refine r_getR h fd_YM_0_73 cf_M fl_M_182 d_M_gainOf_23 ?_
        refine r_iload_n h d_M_gainOf_26 3 rfl rfl ?_
        refine r_iald h sh_YM_58 d_M_gainOf_27 hf (fun hf => ?_)
        refine r_goto h d_M_gainOf_28 ?_
        refine r_iadd h d_M_gainOf_32 ?_
        refine r_istore_n (ls' := [(2, .int (x2 + (σ.1 58 (Int32.toNatClampNeg x3)))), (0, .ref (ya Z 0)), (1, .int x1), (3, .int x3)]) h d_M_gainOf_33 rfl (by decide) rfl ?_
        refine r_iinc (ls' := [(3, .int (x3 + (1 : Int32))), (2, .int (x2 + (σ.1 58 (Int32.toNatClampNeg x3)))), (0, .ref (ya Z 0)), (1, .int x1)]) h d_M_gainOf_34 3 rfl ki_1 (by decide) rfl ?_
        refine r_goto h d_M_gainOf_37 ?_
        refine r_sub h [2, 3, 1, 0] rfl ?_
        exact ih _ _ hf

set_option maxHeartbeats 4000000 in
theorem m_M_gainOf {Z : Sy} {σ : St} {res : Int32} {x1 : Int32} (hf : M_gainOf x1 σ = some res) : Ct YM Z y_M_gainOf c_M_gainOf 4 (some .int) 2 [.ref (ya Z 0), .int x1] σ (some (.int res)) σ := by
  refine Ct.of pn_M (Nat.le_of_ble_eq_true rfl) rfl (fun Γ h => ?_)
  have h : IsG YM Z R_M c_M_gainOf 4 2 (some .int) (some (.int res)) σ Γ := h
  unfold M_gainOf at hf
  refine r_iconst h d_M_gainOf_0 ki_0 ?_
  refine r_istore_n (ls' := [(2, .int (0 : Int32)), (0, .ref (ya Z 0)), (1, .int x1)]) h d_M_gainOf_1 rfl (by decide) rfl ?_
  refine r_iconst h d_M_gainOf_2 ki_0 ?_
  refine r_istore_n (ls' := [(3, .int (0 : Int32)), (2, .int (0 : Int32)), (0, .ref (ya Z 0)), (1, .int x1)]) h d_M_gainOf_3 rfl (by decide) rfl ?_
  refine r_sub h [2, 3, 1, 0] rfl ?_
  exact w_M_gainOf_L4 h _ _ _ hf

theorem d_M_mayBe_0 : decode c_M_mayBe 0 = .ok (.iconst 1, 1) ∧ 0 + 1 = 1 := by decide +kernel
theorem d_M_mayBe_1 : decode c_M_mayBe 1 = .ok (.istore_n 2, 1) ∧ 1 + 1 = 2 := by decide +kernel
theorem d_M_mayBe_2 : decode c_M_mayBe 2 = .ok (.iconst 0, 1) ∧ 2 + 1 = 3 := by decide +kernel
theorem d_M_mayBe_3 : decode c_M_mayBe 3 = .ok (.istore_n 3, 1) ∧ 3 + 1 = 4 := by decide +kernel
theorem d_M_mayBe_4 : decode c_M_mayBe 4 = .ok (.iload_n 3, 1) ∧ 4 + 1 = 5 := by decide +kernel
theorem d_M_mayBe_5 : decode c_M_mayBe 5 = .ok (.aload_n 0, 1) ∧ 5 + 1 = 6 := by decide +kernel
theorem d_M_mayBe_6 : decode c_M_mayBe 6 = .ok (.getfield 443, 3) ∧ 6 + 3 = 9 := by decide +kernel
theorem d_M_mayBe_9 : decode c_M_mayBe 9 = .ok (.if_icmp .ge 97, 3) ∧ 9 + 3 = 12 ∧ ((9 : Nat) : Int) + 97 = ((106 : Nat) : Int) := by decide +kernel
theorem d_M_mayBe_12 : decode c_M_mayBe 12 = .ok (.iconst 0, 1) ∧ 12 + 1 = 13 := by decide +kernel
theorem d_M_mayBe_13 : decode c_M_mayBe 13 = .ok (.istore 4, 2) ∧ 13 + 2 = 15 := by decide +kernel
theorem d_M_mayBe_15 : decode c_M_mayBe 15 = .ok (.iload 4, 2) ∧ 15 + 2 = 17 := by decide +kernel
theorem d_M_mayBe_17 : decode c_M_mayBe 17 = .ok (.iload_n 3, 1) ∧ 17 + 1 = 18 := by decide +kernel
theorem d_M_mayBe_18 : decode c_M_mayBe 18 = .ok (.if_icmp .ge 82, 3) ∧ 18 + 3 = 21 ∧ ((18 : Nat) : Int) + 82 = ((100 : Nat) : Int) := by decide +kernel
theorem d_M_mayBe_21 : decode c_M_mayBe 21 = .ok (.iload_n 1, 1) ∧ 21 + 1 = 22 := by decide +kernel
theorem d_M_mayBe_22 : decode c_M_mayBe 22 = .ok (.i2l, 1) ∧ 22 + 1 = 23 := by decide +kernel
theorem d_M_mayBe_23 : decode c_M_mayBe 23 = .ok (.iload_n 3, 1) ∧ 23 + 1 = 24 := by decide +kernel
theorem d_M_mayBe_24 : decode c_M_mayBe 24 = .ok (.invokestatic 319, 3) ∧ 24 + 3 = 27 := by decide +kernel
theorem d_M_mayBe_27 : decode c_M_mayBe 27 = .ok (.ifCond .eq 17, 3) ∧ 27 + 3 = 30 ∧ ((27 : Nat) : Int) + 17 = ((44 : Nat) : Int) := by decide +kernel
theorem d_M_mayBe_30 : decode c_M_mayBe 30 = .ok (.iload_n 1, 1) ∧ 30 + 1 = 31 := by decide +kernel
theorem d_M_mayBe_31 : decode c_M_mayBe 31 = .ok (.i2l, 1) ∧ 31 + 1 = 32 := by decide +kernel
theorem d_M_mayBe_32 : decode c_M_mayBe 32 = .ok (.iload 4, 2) ∧ 32 + 2 = 34 := by decide +kernel
theorem d_M_mayBe_34 : decode c_M_mayBe 34 = .ok (.invokestatic 319, 3) ∧ 34 + 3 = 37 := by decide +kernel
theorem d_M_mayBe_37 : decode c_M_mayBe 37 = .ok (.ifCond .eq 7, 3) ∧ 37 + 3 = 40 ∧ ((37 : Nat) : Int) + 7 = ((44 : Nat) : Int) := by decide +kernel
theorem d_M_mayBe_40 : decode c_M_mayBe 40 = .ok (.iconst 1, 1) ∧ 40 + 1 = 41 := by decide +kernel
theorem d_M_mayBe_41 : decode c_M_mayBe 41 = .ok (.goto 4, 3) ∧ (41 : Int) + 4 = (45 : Int) := by decide +kernel
theorem d_M_mayBe_44 : decode c_M_mayBe 44 = .ok (.iconst 0, 1) ∧ 44 + 1 = 45 := by decide +kernel
theorem d_M_mayBe_45 : decode c_M_mayBe 45 = .ok (.istore 5, 2) ∧ 45 + 2 = 47 := by decide +kernel
theorem d_M_mayBe_47 : decode c_M_mayBe 47 = .ok (.iload_n 2, 1) ∧ 47 + 1 = 48 := by decide +kernel
theorem d_M_mayBe_48 : decode c_M_mayBe 48 = .ok (.ifCond .eq 44, 3) ∧ 48 + 3 = 51 ∧ ((48 : Nat) : Int) + 44 = ((92 : Nat) : Int) := by decide +kernel
theorem d_M_mayBe_51 : decode c_M_mayBe 51 = .ok (.iload 5, 2) ∧ 51 + 2 = 53 := by decide +kernel
theorem d_M_mayBe_53 : decode c_M_mayBe 53 = .ok (.ifCond .eq 35, 3) ∧ 53 + 3 = 56 ∧ ((53 : Nat) : Int) + 35 = ((88 : Nat) : Int) := by decide +kernel
theorem d_M_mayBe_56 : decode c_M_mayBe 56 = .ok (.aload_n 0, 1) ∧ 56 + 1 = 57 := by decide +kernel
theorem d_M_mayBe_57 : decode c_M_mayBe 57 = .ok (.getfield 170, 3) ∧ 57 + 3 = 60 := by decide +kernel
theorem d_M_mayBe_60 : decode c_M_mayBe 60 = .ok (.iload_n 3, 1) ∧ 60 + 1 = 61 := by decide +kernel
theorem d_M_mayBe_61 : decode c_M_mayBe 61 = .ok (.iaload, 1) ∧ 61 + 1 = 62 := by decide +kernel
theorem d_M_mayBe_62 : decode c_M_mayBe 62 = .ok (.aload_n 0, 1) ∧ 62 + 1 = 63 := by decide +kernel
theorem d_M_mayBe_63 : decode c_M_mayBe 63 = .ok (.getfield 170, 3) ∧ 63 + 3 = 66 := by decide +kernel
theorem d_M_mayBe_66 : decode c_M_mayBe 66 = .ok (.iload 4, 2) ∧ 66 + 2 = 68 := by decide +kernel
theorem d_M_mayBe_68 : decode c_M_mayBe 68 = .ok (.iaload, 1) ∧ 68 + 1 = 69 := by decide +kernel
theorem d_M_mayBe_69 : decode c_M_mayBe 69 = .ok (.if_icmp .eq 23, 3) ∧ 69 + 3 = 72 ∧ ((69 : Nat) : Int) + 23 = ((92 : Nat) : Int) := by decide +kernel
theorem d_M_mayBe_72 : decode c_M_mayBe 72 = .ok (.aload_n 0, 1) ∧ 72 + 1 = 73 := by decide +kernel
theorem d_M_mayBe_73 : decode c_M_mayBe 73 = .ok (.getfield 176, 3) ∧ 73 + 3 = 76 := by decide +kernel
theorem d_M_mayBe_76 : decode c_M_mayBe 76 = .ok (.iload_n 3, 1) ∧ 76 + 1 = 77 := by decide +kernel
theorem d_M_mayBe_77 : decode c_M_mayBe 77 = .ok (.iaload, 1) ∧ 77 + 1 = 78 := by decide +kernel
theorem d_M_mayBe_78 : decode c_M_mayBe 78 = .ok (.aload_n 0, 1) ∧ 78 + 1 = 79 := by decide +kernel
theorem d_M_mayBe_79 : decode c_M_mayBe 79 = .ok (.getfield 176, 3) ∧ 79 + 3 = 82 := by decide +kernel
theorem d_M_mayBe_82 : decode c_M_mayBe 82 = .ok (.iload 4, 2) ∧ 82 + 2 = 84 := by decide +kernel
theorem d_M_mayBe_84 : decode c_M_mayBe 84 = .ok (.iaload, 1) ∧ 84 + 1 = 85 := by decide +kernel
theorem d_M_mayBe_85 : decode c_M_mayBe 85 = .ok (.if_icmp .eq 7, 3) ∧ 85 + 3 = 88 ∧ ((85 : Nat) : Int) + 7 = ((92 : Nat) : Int) := by decide +kernel
theorem d_M_mayBe_88 : decode c_M_mayBe 88 = .ok (.iconst 1, 1) ∧ 88 + 1 = 89 := by decide +kernel
theorem d_M_mayBe_89 : decode c_M_mayBe 89 = .ok (.goto 4, 3) ∧ (89 : Int) + 4 = (93 : Int) := by decide +kernel
theorem d_M_mayBe_92 : decode c_M_mayBe 92 = .ok (.iconst 0, 1) ∧ 92 + 1 = 93 := by decide +kernel
theorem d_M_mayBe_93 : decode c_M_mayBe 93 = .ok (.istore_n 2, 1) ∧ 93 + 1 = 94 := by decide +kernel
theorem d_M_mayBe_94 : decode c_M_mayBe 94 = .ok (.iinc 4 1, 3) ∧ 94 + 3 = 97 := by decide +kernel
theorem d_M_mayBe_97 : decode c_M_mayBe 97 = .ok (.goto (-82), 3) ∧ (97 : Int) + (-82) = (15 : Int) := by decide +kernel
theorem d_M_mayBe_100 : decode c_M_mayBe 100 = .ok (.iinc 3 1, 3) ∧ 100 + 3 = 103 := by decide +kernel
theorem d_M_mayBe_103 : decode c_M_mayBe 103 = .ok (.goto (-99), 3) ∧ (103 : Int) + (-99) = (4 : Int) := by decide +kernel
theorem d_M_mayBe_106 : decode c_M_mayBe 106 = .ok (.iconst 0, 1) ∧ 106 + 1 = 107 := by decide +kernel
theorem d_M_mayBe_107 : decode c_M_mayBe 107 = .ok (.istore_n 3, 1) ∧ 107 + 1 = 108 := by decide +kernel
theorem d_M_mayBe_108 : decode c_M_mayBe 108 = .ok (.iload_n 3, 1) ∧ 108 + 1 = 109 := by decide +kernel
theorem d_M_mayBe_109 : decode c_M_mayBe 109 = .ok (.aload_n 0, 1) ∧ 109 + 1 = 110 := by decide +kernel
theorem d_M_mayBe_110 : decode c_M_mayBe 110 = .ok (.getfield 223, 3) ∧ 110 + 3 = 113 := by decide +kernel
theorem d_M_mayBe_113 : decode c_M_mayBe 113 = .ok (.if_icmp .ge 88, 3) ∧ 113 + 3 = 116 ∧ ((113 : Nat) : Int) + 88 = ((201 : Nat) : Int) := by decide +kernel
theorem d_M_mayBe_116 : decode c_M_mayBe 116 = .ok (.iconst 0, 1) ∧ 116 + 1 = 117 := by decide +kernel
theorem d_M_mayBe_117 : decode c_M_mayBe 117 = .ok (.istore 4, 2) ∧ 117 + 2 = 119 := by decide +kernel
theorem d_M_mayBe_119 : decode c_M_mayBe 119 = .ok (.iconst 0, 1) ∧ 119 + 1 = 120 := by decide +kernel
theorem d_M_mayBe_120 : decode c_M_mayBe 120 = .ok (.istore 5, 2) ∧ 120 + 2 = 122 := by decide +kernel
theorem d_M_mayBe_122 : decode c_M_mayBe 122 = .ok (.iload 5, 2) ∧ 122 + 2 = 124 := by decide +kernel
theorem d_M_mayBe_124 : decode c_M_mayBe 124 = .ok (.aload_n 0, 1) ∧ 124 + 1 = 125 := by decide +kernel
theorem d_M_mayBe_125 : decode c_M_mayBe 125 = .ok (.getfield 443, 3) ∧ 125 + 3 = 128 := by decide +kernel
theorem d_M_mayBe_128 : decode c_M_mayBe 128 = .ok (.if_icmp .ge 46, 3) ∧ 128 + 3 = 131 ∧ ((128 : Nat) : Int) + 46 = ((174 : Nat) : Int) := by decide +kernel
theorem d_M_mayBe_131 : decode c_M_mayBe 131 = .ok (.iload 4, 2) ∧ 131 + 2 = 133 := by decide +kernel
theorem d_M_mayBe_133 : decode c_M_mayBe 133 = .ok (.iload_n 1, 1) ∧ 133 + 1 = 134 := by decide +kernel
theorem d_M_mayBe_134 : decode c_M_mayBe 134 = .ok (.i2l, 1) ∧ 134 + 1 = 135 := by decide +kernel
theorem d_M_mayBe_135 : decode c_M_mayBe 135 = .ok (.iload 5, 2) ∧ 135 + 2 = 137 := by decide +kernel
theorem d_M_mayBe_137 : decode c_M_mayBe 137 = .ok (.invokestatic 319, 3) ∧ 137 + 3 = 140 := by decide +kernel
theorem d_M_mayBe_140 : decode c_M_mayBe 140 = .ok (.ifCond .eq 24, 3) ∧ 140 + 3 = 143 ∧ ((140 : Nat) : Int) + 24 = ((164 : Nat) : Int) := by decide +kernel
theorem d_M_mayBe_143 : decode c_M_mayBe 143 = .ok (.aload_n 0, 1) ∧ 143 + 1 = 144 := by decide +kernel
theorem d_M_mayBe_144 : decode c_M_mayBe 144 = .ok (.getfield 173, 3) ∧ 144 + 3 = 147 := by decide +kernel
theorem d_M_mayBe_147 : decode c_M_mayBe 147 = .ok (.iload 5, 2) ∧ 147 + 2 = 149 := by decide +kernel
theorem d_M_mayBe_149 : decode c_M_mayBe 149 = .ok (.iaload, 1) ∧ 149 + 1 = 150 := by decide +kernel
theorem d_M_mayBe_150 : decode c_M_mayBe 150 = .ok (.iload_n 3, 1) ∧ 150 + 1 = 151 := by decide +kernel
theorem d_M_mayBe_151 : decode c_M_mayBe 151 = .ok (.if_icmp .ne 13, 3) ∧ 151 + 3 = 154 ∧ ((151 : Nat) : Int) + 13 = ((164 : Nat) : Int) := by decide +kernel
theorem d_M_mayBe_154 : decode c_M_mayBe 154 = .ok (.aload_n 0, 1) ∧ 154 + 1 = 155 := by decide +kernel
theorem d_M_mayBe_155 : decode c_M_mayBe 155 = .ok (.getfield 179, 3) ∧ 155 + 3 = 158 := by decide +kernel
theorem d_M_mayBe_158 : decode c_M_mayBe 158 = .ok (.iload 5, 2) ∧ 158 + 2 = 160 := by decide +kernel
theorem d_M_mayBe_160 : decode c_M_mayBe 160 = .ok (.iaload, 1) ∧ 160 + 1 = 161 := by decide +kernel
theorem d_M_mayBe_161 : decode c_M_mayBe 161 = .ok (.goto 4, 3) ∧ (161 : Int) + 4 = (165 : Int) := by decide +kernel
theorem d_M_mayBe_164 : decode c_M_mayBe 164 = .ok (.iconst 0, 1) ∧ 164 + 1 = 165 := by decide +kernel
theorem d_M_mayBe_165 : decode c_M_mayBe 165 = .ok (.iadd, 1) ∧ 165 + 1 = 166 := by decide +kernel
theorem d_M_mayBe_166 : decode c_M_mayBe 166 = .ok (.istore 4, 2) ∧ 166 + 2 = 168 := by decide +kernel
theorem d_M_mayBe_168 : decode c_M_mayBe 168 = .ok (.iinc 5 1, 3) ∧ 168 + 3 = 171 := by decide +kernel
theorem d_M_mayBe_171 : decode c_M_mayBe 171 = .ok (.goto (-49), 3) ∧ (171 : Int) + (-49) = (122 : Int) := by decide +kernel
theorem d_M_mayBe_174 : decode c_M_mayBe 174 = .ok (.iload_n 2, 1) ∧ 174 + 1 = 175 := by decide +kernel
theorem d_M_mayBe_175 : decode c_M_mayBe 175 = .ok (.ifCond .eq 18, 3) ∧ 175 + 3 = 178 ∧ ((175 : Nat) : Int) + 18 = ((193 : Nat) : Int) := by decide +kernel
theorem d_M_mayBe_178 : decode c_M_mayBe 178 = .ok (.iload 4, 2) ∧ 178 + 2 = 180 := by decide +kernel
theorem d_M_mayBe_180 : decode c_M_mayBe 180 = .ok (.aload_n 0, 1) ∧ 180 + 1 = 181 := by decide +kernel
theorem d_M_mayBe_181 : decode c_M_mayBe 181 = .ok (.getfield 19, 3) ∧ 181 + 3 = 184 := by decide +kernel
theorem d_M_mayBe_184 : decode c_M_mayBe 184 = .ok (.iload_n 3, 1) ∧ 184 + 1 = 185 := by decide +kernel
theorem d_M_mayBe_185 : decode c_M_mayBe 185 = .ok (.iaload, 1) ∧ 185 + 1 = 186 := by decide +kernel
theorem d_M_mayBe_186 : decode c_M_mayBe 186 = .ok (.if_icmp .gt 7, 3) ∧ 186 + 3 = 189 ∧ ((186 : Nat) : Int) + 7 = ((193 : Nat) : Int) := by decide +kernel
theorem d_M_mayBe_189 : decode c_M_mayBe 189 = .ok (.iconst 1, 1) ∧ 189 + 1 = 190 := by decide +kernel
theorem d_M_mayBe_190 : decode c_M_mayBe 190 = .ok (.goto 4, 3) ∧ (190 : Int) + 4 = (194 : Int) := by decide +kernel
theorem d_M_mayBe_193 : decode c_M_mayBe 193 = .ok (.iconst 0, 1) ∧ 193 + 1 = 194 := by decide +kernel
theorem d_M_mayBe_194 : decode c_M_mayBe 194 = .ok (.istore_n 2, 1) ∧ 194 + 1 = 195 := by decide +kernel
theorem d_M_mayBe_195 : decode c_M_mayBe 195 = .ok (.iinc 3 1, 3) ∧ 195 + 3 = 198 := by decide +kernel
theorem d_M_mayBe_198 : decode c_M_mayBe 198 = .ok (.goto (-90), 3) ∧ (198 : Int) + (-90) = (108 : Int) := by decide +kernel
theorem d_M_mayBe_201 : decode c_M_mayBe 201 = .ok (.iload_n 2, 1) ∧ 201 + 1 = 202 := by decide +kernel
theorem d_M_mayBe_202 : decode c_M_mayBe 202 = .ok (.ireturn, 1) ∧ 202 + 1 = 203 := by decide +kernel
set_option maxHeartbeats 4000000 in
theorem w_M_mayBe_L122 {Z : Sy} {Γ : Nat → List (Nat × Value) → List Value → St → Prop} {res : Bool} {x1 : Int32} {x2 : Int32} {x3 : Int32} {σ : St} {k108 : Int32 → Int32 → Option Bool} (h : IsG YM Z R_M c_M_mayBe 6 2 (some .boolean) (some (.int (bi res))) σ Γ) (hk108 : ∀ (x2 : Int32) (x3 : Int32), k108 x2 x3 = some res → Γ 108 [(0, .ref (ya Z 0)), (1, .int x1), (2, .int x2), (3, .int x3)] [] σ) : ∀ (n : Nat) (x4 : Int32) (x5 : Int32), M_mayBe_L122 x1 x2 x3 σ k108 n x4 x5 = some res → Γ 122 [(0, .ref (ya Z 0)), (1, .int x1), (2, .int x2), (3, .int x3), (4, .int x4), (5, .int x5)] [] σ := by
  intro n
  induction n with
  | zero => intro x4 x5 hf; exact absurd hf (by simp [M_mayBe_L122])
  | succ n ih =>
    intro x4 x5 hf
    rw [M_mayBe_L122] at hf
    refine r_iload h d_M_mayBe_122 5 rfl ?_
    refine r_aload_n h d_M_mayBe_124 0 rfl rfl ?_
    refine r_getI h fd_YM_0_68 cf_M fl_M_443 d_M_mayBe_125 ?_
    refine r_icmp_ge h d_M_mayBe_128 hf (fun hf => ?_) (fun hf => ?_)
    · refine r_iload_n h d_M_mayBe_174 2 rfl rfl ?_
      refine r_if_eq h d_M_mayBe_175 hf (fun hf => ?_) (fun hf => ?_)
      · refine r_iconst h d_M_mayBe_193 ki_0 ?_
        refine r_istore_n (ls' := [(2, .int (0 : Int32)), (0, .ref (ya Z 0)), (1, .int x1), (3, .int x3), (4, .int x4), (5, .int x5)]) h d_M_mayBe_194 rfl (by decide) rfl ?_
        refine r_iinc (ls' := [(3, .int (x3 + (1 : Int32))), (2, .int (0 : Int32)), (0, .ref (ya Z 0)), (1, .int x1), (4, .int x4), (5, .int x5)]) h d_M_mayBe_195 3 rfl ki_1 (by decide) rfl ?_
        refine r_goto h d_M_mayBe_198 ?_
        refine r_sub h [2, 3, 1, 0] rfl ?_
        exact hk108 _ _ hf
      · refine r_iload h d_M_mayBe_178 4 rfl ?_
        refine r_aload_n h d_M_mayBe_180 0 rfl rfl ?_
        refine r_getR h fd_YM_0_7 cf_M fl_M_19 d_M_mayBe_181 ?_
        refine r_iload_n h d_M_mayBe_184 3 rfl rfl ?_
        refine r_iald h sh_YM_4 d_M_mayBe_185 hf (fun hf => ?_)
        refine r_icmp_gt h d_M_mayBe_186 hf (fun hf => ?_) (fun hf => ?_)
        · refine r_iconst h d_M_mayBe_193 ki_0 ?_
          refine r_istore_n (ls' := [(2, .int (0 : Int32)), (0, .ref (ya Z 0)), (1, .int x1), (3, .int x3), (4, .int x4), (5, .int x5)]) h d_M_mayBe_194 rfl (by decide) rfl ?_
          refine r_iinc (ls' := [(3, .int (x3 + (1 : Int32))), (2, .int (0 : Int32)), (0, .ref (ya Z 0)), (1, .int x1), (4, .int x4), (5, .int x5)]) h d_M_mayBe_195 3 rfl ki_1 (by decide) rfl ?_
          refine r_goto h d_M_mayBe_198 ?_
          refine r_sub h [2, 3, 1, 0] rfl ?_
          exact hk108 _ _ hf
        · refine r_iconst h d_M_mayBe_189 ki_1 ?_
          refine r_goto h d_M_mayBe_190 ?_
          refine r_istore_n (ls' := [(2, .int (1 : Int32)), (0, .ref (ya Z 0)), (1, .int x1), (3, .int x3), (4, .int x4), (5, .int x5)]) h d_M_mayBe_194 rfl (by decide) rfl ?_
          refine r_iinc (ls' := [(3, .int (x3 + (1 : Int32))), (2, .int (1 : Int32)), (0, .ref (ya Z 0)), (1, .int x1), (4, .int x4), (5, .int x5)]) h d_M_mayBe_195 3 rfl ki_1 (by decide) rfl ?_
          refine r_goto h d_M_mayBe_198 ?_
          refine r_sub h [2, 3, 1, 0] rfl ?_
          exact hk108 _ _ hf
    · refine r_iload h d_M_mayBe_131 4 rfl ?_
      refine r_iload_n h d_M_mayBe_133 1 rfl rfl ?_
      refine r_i2l h d_M_mayBe_134 ?_
      refine r_iload h d_M_mayBe_135 5 rfl ?_
      obtain ⟨r137, e137, hf⟩ := q_bind hf
      refine r_callS (As := [.long (Int32.toInt64 x1), .int x5]) (rest := [.int x4]) h lk_M_319 sk_M_319 d_M_mayBe_137 (by decide) rfl rfl (Nat.le_of_ble_eq_true rfl) (m_M_hasBit e137) ?_
      refine r_bif_eq h d_M_mayBe_140 hf (fun hf => ?_) (fun hf => ?_)
      · refine r_iconst h d_M_mayBe_164 ki_0 ?_
        refine r_iadd h d_M_mayBe_165 ?_
        refine r_istore (ls' := [(4, .int (x4 + (0 : Int32))), (0, .ref (ya Z 0)), (1, .int x1), (2, .int x2), (3, .int x3), (5, .int x5)]) h d_M_mayBe_166 (by decide) rfl ?_
        refine r_iinc (ls' := [(5, .int (x5 + (1 : Int32))), (4, .int (x4 + (0 : Int32))), (0, .ref (ya Z 0)), (1, .int x1), (2, .int x2), (3, .int x3)]) h d_M_mayBe_168 5 rfl ki_1 (by decide) rfl ?_
        refine r_goto h d_M_mayBe_171 ?_
        refine r_sub h [2, 3, 4, 5, 1, 0] rfl ?_
        exact ih _ _ hf
      · refine r_aload_n h d_M_mayBe_143 0 rfl rfl ?_
        refine r_getR h fd_YM_0_70 cf_M fl_M_173 d_M_mayBe_144 ?_
        refine r_iload h d_M_mayBe_147 5 rfl ?_
        refine r_iald h sh_YM_55 d_M_mayBe_149 hf (fun hf => ?_)
        refine r_iload_n h d_M_mayBe_150 3 rfl rfl ?_
        refine r_icmp_ne h d_M_mayBe_151 hf (fun hf => ?_) (fun hf => ?_)
        · refine r_iconst h d_M_mayBe_164 ki_0 ?_
          refine r_iadd h d_M_mayBe_165 ?_
          refine r_istore (ls' := [(4, .int (x4 + (0 : Int32))), (0, .ref (ya Z 0)), (1, .int x1), (2, .int x2), (3, .int x3), (5, .int x5)]) h d_M_mayBe_166 (by decide) rfl ?_
          refine r_iinc (ls' := [(5, .int (x5 + (1 : Int32))), (4, .int (x4 + (0 : Int32))), (0, .ref (ya Z 0)), (1, .int x1), (2, .int x2), (3, .int x3)]) h d_M_mayBe_168 5 rfl ki_1 (by decide) rfl ?_
          refine r_goto h d_M_mayBe_171 ?_
          refine r_sub h [2, 3, 4, 5, 1, 0] rfl ?_
          exact ih _ _ hf
        · refine r_aload_n h d_M_mayBe_154 0 rfl rfl ?_
          refine r_getR h fd_YM_0_72 cf_M fl_M_179 d_M_mayBe_155 ?_
          refine r_iload h d_M_mayBe_158 5 rfl ?_
          refine r_iald h sh_YM_57 d_M_mayBe_160 hf (fun hf => ?_)
          refine r_goto h d_M_mayBe_161 ?_
          refine r_iadd h d_M_mayBe_165 ?_
          refine r_istore (ls' := [(4, .int (x4 + (σ.1 57 (Int32.toNatClampNeg x5)))), (0, .ref (ya Z 0)), (1, .int x1), (2, .int x2), (3, .int x3), (5, .int x5)]) h d_M_mayBe_166 (by decide) rfl ?_
          refine r_iinc (ls' := [(5, .int (x5 + (1 : Int32))), (4, .int (x4 + (σ.1 57 (Int32.toNatClampNeg x5)))), (0, .ref (ya Z 0)), (1, .int x1), (2, .int x2), (3, .int x3)]) h d_M_mayBe_168 5 rfl ki_1 (by decide) rfl ?_
          refine r_goto h d_M_mayBe_171 ?_
          refine r_sub h [2, 3, 4, 5, 1, 0] rfl ?_
          exact ih _ _ hf

set_option maxHeartbeats 4000000 in
theorem w_M_mayBe_L108 {Z : Sy} {Γ : Nat → List (Nat × Value) → List Value → St → Prop} {res : Bool} {x1 : Int32} {σ : St} (h : IsG YM Z R_M c_M_mayBe 6 2 (some .boolean) (some (.int (bi res))) σ Γ) : ∀ (n : Nat) (x2 : Int32) (x3 : Int32), M_mayBe_L108 x1 σ n x2 x3 = some res → Γ 108 [(0, .ref (ya Z 0)), (1, .int x1), (2, .int x2), (3, .int x3)] [] σ := by
  intro n
  induction n with
  | zero => intro x2 x3 hf; exact absurd hf (by simp [M_mayBe_L108])
  | succ n ih =>
    intro x2 x3 hf
    rw [M_mayBe_L108] at hf
    refine r_iload_n h d_M_mayBe_108 3 rfl rfl ?_
    refine r_aload_n h d_M_mayBe_109 0 rfl rfl ?_
    refine r_getI h fd_YM_0_3 cf_M fl_M_223 d_M_mayBe_110 ?_
    refine r_icmp_ge h d_M_mayBe_113 hf (fun hf => ?_) (fun hf => ?_)
    · refine r_iload_n h d_M_mayBe_201 2 rfl rfl ?_
      refine q_case hf (fun hq hf => ?_) (fun hq hf => ?_)
      · exact r_zreturn h d_M_mayBe_202.1 (hq.trans ((show (0 : Int32) = bi false from rfl).trans (congrArg bi (Option.some.inj hf)))) rfl
      · refine q_case hf (fun hq hf => ?_) (fun hq hf => ?_)
        · exact r_zreturn h d_M_mayBe_202.1 (hq.trans ((show (1 : Int32) = bi true from rfl).trans (congrArg bi (Option.some.inj hf)))) rfl
        · cases hf
    · refine r_iconst h d_M_mayBe_116 ki_0 ?_
      refine r_istore (ls' := [(4, .int (0 : Int32)), (0, .ref (ya Z 0)), (1, .int x1), (2, .int x2), (3, .int x3)]) h d_M_mayBe_117 (by decide) rfl ?_
      refine r_iconst h d_M_mayBe_119 ki_0 ?_
      refine r_istore (ls' := [(5, .int (0 : Int32)), (4, .int (0 : Int32)), (0, .ref (ya Z 0)), (1, .int x1), (2, .int x2), (3, .int x3)]) h d_M_mayBe_120 (by decide) rfl ?_
      refine r_sub h [2, 3, 4, 5, 1, 0] rfl ?_
      exact w_M_mayBe_L122 h (fun y2 y3 hf => ih y2 y3 hf) _ _ _ hf

set_option maxHeartbeats 4000000 in
theorem w_M_mayBe_L15 {Z : Sy} {Γ : Nat → List (Nat × Value) → List Value → St → Prop} {res : Bool} {x1 : Int32} {x3 : Int32} {σ : St} {k4 : Int32 → Int32 → Option Bool} (h : IsG YM Z R_M c_M_mayBe 6 2 (some .boolean) (some (.int (bi res))) σ Γ) (hk4 : ∀ (x2 : Int32) (x3 : Int32), k4 x2 x3 = some res → Γ 4 [(0, .ref (ya Z 0)), (1, .int x1), (2, .int x2), (3, .int x3)] [] σ) : ∀ (n : Nat) (x2 : Int32) (x4 : Int32), M_mayBe_L15 x1 x3 σ k4 n x2 x4 = some res → Γ 15 [(0, .ref (ya Z 0)), (1, .int x1), (2, .int x2), (3, .int x3), (4, .int x4)] [] σ := by
  intro n
  induction n with
  | zero => intro x2 x4 hf; exact absurd hf (by simp [M_mayBe_L15])
  | succ n ih =>
    intro x2 x4 hf
    rw [M_mayBe_L15] at hf
    refine r_iload h d_M_mayBe_15 4 rfl ?_
    refine r_iload_n h d_M_mayBe_17 3 rfl rfl ?_
    refine r_icmp_ge h d_M_mayBe_18 hf (fun hf => ?_) (fun hf => ?_)
    · refine r_iinc (ls' := [(3, .int (x3 + (1 : Int32))), (0, .ref (ya Z 0)), (1, .int x1), (2, .int x2), (4, .int x4)]) h d_M_mayBe_100 3 rfl ki_1 (by decide) rfl ?_
      refine r_goto h d_M_mayBe_103 ?_
      refine r_sub h [1, 2, 3, 0] rfl ?_
      exact hk4 _ _ hf
    · refine r_iload_n h d_M_mayBe_21 1 rfl rfl ?_
      refine r_i2l h d_M_mayBe_22 ?_
      refine r_iload_n h d_M_mayBe_23 3 rfl rfl ?_
      obtain ⟨r24, e24, hf⟩ := q_bind hf
      refine r_callS (As := [.long (Int32.toInt64 x1), .int x3]) (rest := []) h lk_M_319 sk_M_319 d_M_mayBe_24 (by decide) rfl rfl (Nat.le_of_ble_eq_true rfl) (m_M_hasBit e24) ?_
      refine r_bif_eq h d_M_mayBe_27 hf (fun hf => ?_) (fun hf => ?_)
      · refine r_iconst h d_M_mayBe_44 ki_0 ?_
        refine r_istore (ls' := [(5, .int (0 : Int32)), (0, .ref (ya Z 0)), (1, .int x1), (2, .int x2), (3, .int x3), (4, .int x4)]) h d_M_mayBe_45 (by decide) rfl ?_
        refine r_iload_n h d_M_mayBe_47 3 rfl rfl ?_
        refine r_if_eq h d_M_mayBe_48 hf (fun hf => ?_) (fun hf => ?_)
        · refine r_iconst h d_M_mayBe_92 ki_0 ?_
          refine r_istore_n (ls' := [(2, .int (0 : Int32)), (5, .int (0 : Int32)), (0, .ref (ya Z 0)), (1, .int x1), (3, .int x3), (4, .int x4)]) h d_M_mayBe_93 rfl (by decide) rfl ?_
          refine r_iinc (ls' := [(4, .int (x4 + (1 : Int32))), (2, .int (0 : Int32)), (5, .int (0 : Int32)), (0, .ref (ya Z 0)), (1, .int x1), (3, .int x3)]) h d_M_mayBe_94 5 rfl ki_1 (by decide) rfl ?_
          refine r_goto h d_M_mayBe_97 ?_
          refine r_sub h [3, 4, 1, 5, 0] rfl ?_
          exact ih _ _ hf
        · refine r_iload h d_M_mayBe_51 0 rfl ?_
          refine r_if_eq_T h d_M_mayBe_53 (by decide) ?_
          refine r_iconst h d_M_mayBe_88 ki_1 ?_
          refine r_goto h d_M_mayBe_89 ?_
          refine r_istore_n (ls' := [(2, .int (1 : Int32)), (5, .int (0 : Int32)), (0, .ref (ya Z 0)), (1, .int x1), (3, .int x3), (4, .int x4)]) h d_M_mayBe_93 rfl (by decide) rfl ?_
          refine r_iinc (ls' := [(4, .int (x4 + (1 : Int32))), (2, .int (1 : Int32)), (5, .int (0 : Int32)), (0, .ref (ya Z 0)), (1, .int x1), (3, .int x3)]) h d_M_mayBe_94 5 rfl ki_1 (by decide) rfl ?_
          refine r_goto h d_M_mayBe_97 ?_
          refine r_sub h [3, 4, 1, 5, 0] rfl ?_
          exact ih _ _ hf
      · refine r_iload_n h d_M_mayBe_30 1 rfl rfl ?_
        refine r_i2l h d_M_mayBe_31 ?_
        refine r_iload h d_M_mayBe_32 4 rfl ?_
        obtain ⟨r34, e34, hf⟩ := q_bind hf
        refine r_callS (As := [.long (Int32.toInt64 x1), .int x4]) (rest := []) h lk_M_319 sk_M_319 d_M_mayBe_34 (by decide) rfl rfl (Nat.le_of_ble_eq_true rfl) (m_M_hasBit e34) ?_
        refine r_bif_eq h d_M_mayBe_37 hf (fun hf => ?_) (fun hf => ?_)
        · refine r_iconst h d_M_mayBe_44 ki_0 ?_
          refine r_istore (ls' := [(5, .int (0 : Int32)), (0, .ref (ya Z 0)), (1, .int x1), (2, .int x2), (3, .int x3), (4, .int x4)]) h d_M_mayBe_45 (by decide) rfl ?_
          refine r_iload_n h d_M_mayBe_47 3 rfl rfl ?_
          refine r_if_eq h d_M_mayBe_48 hf (fun hf => ?_) (fun hf => ?_)
          · refine r_iconst h d_M_mayBe_92 ki_0 ?_
            refine r_istore_n (ls' := [(2, .int (0 : Int32)), (5, .int (0 : Int32)), (0, .ref (ya Z 0)), (1, .int x1), (3, .int x3), (4, .int x4)]) h d_M_mayBe_93 rfl (by decide) rfl ?_
            refine r_iinc (ls' := [(4, .int (x4 + (1 : Int32))), (2, .int (0 : Int32)), (5, .int (0 : Int32)), (0, .ref (ya Z 0)), (1, .int x1), (3, .int x3)]) h d_M_mayBe_94 5 rfl ki_1 (by decide) rfl ?_
            refine r_goto h d_M_mayBe_97 ?_
            refine r_sub h [3, 4, 1, 5, 0] rfl ?_
            exact ih _ _ hf
          · refine r_iload h d_M_mayBe_51 0 rfl ?_
            refine r_if_eq_T h d_M_mayBe_53 (by decide) ?_
            refine r_iconst h d_M_mayBe_88 ki_1 ?_
            refine r_goto h d_M_mayBe_89 ?_
            refine r_istore_n (ls' := [(2, .int (1 : Int32)), (5, .int (0 : Int32)), (0, .ref (ya Z 0)), (1, .int x1), (3, .int x3), (4, .int x4)]) h d_M_mayBe_93 rfl (by decide) rfl ?_
            refine r_iinc (ls' := [(4, .int (x4 + (1 : Int32))), (2, .int (1 : Int32)), (5, .int (0 : Int32)), (0, .ref (ya Z 0)), (1, .int x1), (3, .int x3)]) h d_M_mayBe_94 5 rfl ki_1 (by decide) rfl ?_
            refine r_goto h d_M_mayBe_97 ?_
            refine r_sub h [3, 4, 1, 5, 0] rfl ?_
            exact ih _ _ hf
        · refine r_iconst h d_M_mayBe_40 ki_1 ?_
          refine r_goto h d_M_mayBe_41 ?_
          refine r_istore (ls' := [(5, .int (1 : Int32)), (0, .ref (ya Z 0)), (1, .int x1), (2, .int x2), (3, .int x3), (4, .int x4)]) h d_M_mayBe_45 (by decide) rfl ?_
          refine r_iload_n h d_M_mayBe_47 3 rfl rfl ?_
          refine r_if_eq h d_M_mayBe_48 hf (fun hf => ?_) (fun hf => ?_)
          · refine r_iconst h d_M_mayBe_92 ki_0 ?_
            refine r_istore_n (ls' := [(2, .int (0 : Int32)), (5, .int (1 : Int32)), (0, .ref (ya Z 0)), (1, .int x1), (3, .int x3), (4, .int x4)]) h d_M_mayBe_93 rfl (by decide) rfl ?_
            refine r_iinc (ls' := [(4, .int (x4 + (1 : Int32))), (2, .int (0 : Int32)), (5, .int (1 : Int32)), (0, .ref (ya Z 0)), (1, .int x1), (3, .int x3)]) h d_M_mayBe_94 5 rfl ki_1 (by decide) rfl ?_
            refine r_goto h d_M_mayBe_97 ?_
            refine r_sub h [3, 4, 1, 5, 0] rfl ?_
            exact ih _ _ hf
          · refine r_iload h d_M_mayBe_51 0 rfl ?_
            refine r_if_eq_F h d_M_mayBe_53 (by decide) ?_
            refine r_aload_n h d_M_mayBe_56 1 rfl rfl ?_
            refine r_getR h fd_YM_0_69 cf_M fl_M_170 d_M_mayBe_57 ?_
            refine r_iload_n h d_M_mayBe_60 4 rfl rfl ?_
            refine r_iald h sh_YM_54 d_M_mayBe_61 hf (fun hf => ?_)
            refine r_aload_n h d_M_mayBe_62 1 rfl rfl ?_
            refine r_getR h fd_YM_0_69 cf_M fl_M_170 d_M_mayBe_63 ?_
            refine r_iload h d_M_mayBe_66 5 rfl ?_
            refine r_iald h sh_YM_54 d_M_mayBe_68 hf (fun hf => ?_)
            refine r_icmp_eq h d_M_mayBe_69 hf (fun hf => ?_) (fun hf => ?_)
            · refine r_iconst h d_M_mayBe_92 ki_0 ?_
              refine r_istore_n (ls' := [(2, .int (0 : Int32)), (5, .int (1 : Int32)), (0, .ref (ya Z 0)), (1, .int x1), (3, .int x3), (4, .int x4)]) h d_M_mayBe_93 rfl (by decide) rfl ?_
              refine r_iinc (ls' := [(4, .int (x4 + (1 : Int32))), (2, .int (0 : Int32)), (5, .int (1 : Int32)), (0, .ref (ya Z 0)), (1, .int x1), (3, .int x3)]) h d_M_mayBe_94 5 rfl ki_1 (by decide) rfl ?_
              refine r_goto h d_M_mayBe_97 ?_
              refine r_sub h [3, 4, 1, 5, 0] rfl ?_
              exact ih _ _ hf
            · refine r_aload_n h d_M_mayBe_72 1 rfl rfl ?_
              refine r_getR h fd_YM_0_71 cf_M fl_M_176 d_M_mayBe_73 ?_
              refine r_iload_n h d_M_mayBe_76 4 rfl rfl ?_
              refine r_iald h sh_YM_56 d_M_mayBe_77 hf (fun hf => ?_)
              refine r_aload_n h d_M_mayBe_78 1 rfl rfl ?_
              refine r_getR h fd_YM_0_71 cf_M fl_M_176 d_M_mayBe_79 ?_
              refine r_iload h d_M_mayBe_82 5 rfl ?_
              refine r_iald h sh_YM_56 d_M_mayBe_84 hf (fun hf => ?_)
              refine r_icmp_eq h d_M_mayBe_85 hf (fun hf => ?_) (fun hf => ?_)
              · refine r_iconst h d_M_mayBe_92 ki_0 ?_
                refine r_istore_n (ls' := [(2, .int (0 : Int32)), (5, .int (1 : Int32)), (0, .ref (ya Z 0)), (1, .int x1), (3, .int x3), (4, .int x4)]) h d_M_mayBe_93 rfl (by decide) rfl ?_
                refine r_iinc (ls' := [(4, .int (x4 + (1 : Int32))), (2, .int (0 : Int32)), (5, .int (1 : Int32)), (0, .ref (ya Z 0)), (1, .int x1), (3, .int x3)]) h d_M_mayBe_94 5 rfl ki_1 (by decide) rfl ?_
                refine r_goto h d_M_mayBe_97 ?_
                refine r_sub h [3, 4, 1, 5, 0] rfl ?_
                exact ih _ _ hf
              · refine r_iconst h d_M_mayBe_88 ki_1 ?_
                refine r_goto h d_M_mayBe_89 ?_
                refine r_istore_n (ls' := [(2, .int (1 : Int32)), (5, .int (1 : Int32)), (0, .ref (ya Z 0)), (1, .int x1), (3, .int x3), (4, .int x4)]) h d_M_mayBe_93 rfl (by decide) rfl ?_
                refine r_iinc (ls' := [(4, .int (x4 + (1 : Int32))), (2, .int (1 : Int32)), (5, .int (1 : Int32)), (0, .ref (ya Z 0)), (1, .int x1), (3, .int x3)]) h d_M_mayBe_94 5 rfl ki_1 (by decide) rfl ?_
                refine r_goto h d_M_mayBe_97 ?_
                refine r_sub h [3, 4, 1, 5, 0] rfl ?_
                exact ih _ _ hf

set_option maxHeartbeats 4000000 in
theorem w_M_mayBe_L4 {Z : Sy} {Γ : Nat → List (Nat × Value) → List Value → St → Prop} {res : Bool} {x1 : Int32} {σ : St} (h : IsG YM Z R_M c_M_mayBe 6 2 (some .boolean) (some (.int (bi res))) σ Γ) : ∀ (n : Nat) (x2 : Int32) (x3 : Int32), M_mayBe_L4 x1 σ n x2 x3 = some res → Γ 4 [(0, .ref (ya Z 0)), (1, .int x1), (2, .int x2), (3, .int x3)] [] σ := by
  intro n
  induction n with
  | zero => intro x2 x3 hf; exact absurd hf (by simp [M_mayBe_L4])
  | succ n ih =>
    intro x2 x3 hf
    rw [M_mayBe_L4] at hf
    refine r_iload_n h d_M_mayBe_4 3 rfl rfl ?_
    refine r_aload_n h d_M_mayBe_5 0 rfl rfl ?_
    refine r_getI h fd_YM_0_68 cf_M fl_M_443 d_M_mayBe_6 ?_
    refine r_icmp_ge h d_M_mayBe_9 hf (fun hf => ?_) (fun hf => ?_)
    · refine r_iconst h d_M_mayBe_106 ki_0 ?_
      refine r_istore_n (ls' := [(3, .int (0 : Int32)), (0, .ref (ya Z 0)), (1, .int x1), (2, .int x2)]) h d_M_mayBe_107 rfl (by decide) rfl ?_
      refine r_sub h [1, 2, 3, 0] rfl ?_
      exact w_M_mayBe_L108 h _ _ _ hf
    · refine r_iconst h d_M_mayBe_12 ki_0 ?_
      refine r_istore (ls' := [(4, .int (0 : Int32)), (0, .ref (ya Z 0)), (1, .int x1), (2, .int x2), (3, .int x3)]) h d_M_mayBe_13 (by decide) rfl ?_
      refine r_sub h [1, 2, 3, 4, 0] rfl ?_
      exact w_M_mayBe_L15 h (fun y2 y3 hf => ih y2 y3 hf) _ _ _ hf

set_option maxHeartbeats 4000000 in
theorem m_M_mayBe {Z : Sy} {σ : St} {res : Bool} {x1 : Int32} (hf : M_mayBe x1 σ = some res) : Ct YM Z y_M_mayBe c_M_mayBe 6 (some .boolean) 2 [.ref (ya Z 0), .int x1] σ (some (.int (bi res))) σ := by
  refine Ct.of pn_M (Nat.le_of_ble_eq_true rfl) rfl (fun Γ h => ?_)
  have h : IsG YM Z R_M c_M_mayBe 6 2 (some .boolean) (some (.int (bi res))) σ Γ := h
  unfold M_mayBe at hf
  refine r_iconst h d_M_mayBe_0 ki_1 ?_
  refine r_istore_n (ls' := [(2, .int (1 : Int32)), (0, .ref (ya Z 0)), (1, .int x1)]) h d_M_mayBe_1 rfl (by decide) rfl ?_
  refine r_iconst h d_M_mayBe_2 ki_0 ?_
  refine r_istore_n (ls' := [(3, .int (0 : Int32)), (2, .int (1 : Int32)), (0, .ref (ya Z 0)), (1, .int x1)]) h d_M_mayBe_3 rfl (by decide) rfl ?_
  refine r_sub h [2, 3, 1, 0] rfl ?_
  exact w_M_mayBe_L4 h _ _ _ hf

theorem d_M_best_0 : decode c_M_best 0 = .ok (.iload_n 1, 1) ∧ 0 + 1 = 1 := by decide +kernel
theorem d_M_best_1 : decode c_M_best 1 = .ok (.i2l, 1) ∧ 1 + 1 = 2 := by decide +kernel
theorem d_M_best_2 : decode c_M_best 2 = .ok (.lconst 0, 1) ∧ 2 + 1 = 3 := by decide +kernel
theorem d_M_best_3 : decode c_M_best 3 = .ok (.lconst 1, 1) ∧ 3 + 1 = 4 := by decide +kernel
theorem d_M_best_4 : decode c_M_best 4 = .ok (.invokestatic 201, 3) ∧ 4 + 3 = 7 := by decide +kernel
theorem d_M_best_7 : decode c_M_best 7 = .ok (.ifCond .ne 6, 3) ∧ 7 + 3 = 10 ∧ ((7 : Nat) : Int) + 6 = ((13 : Nat) : Int) := by decide +kernel
theorem d_M_best_10 : decode c_M_best 10 = .ok (.bipush (-2), 2) ∧ 10 + 2 = 12 := by decide +kernel
theorem d_M_best_12 : decode c_M_best 12 = .ok (.ireturn, 1) ∧ 12 + 1 = 13 := by decide +kernel
theorem d_M_best_13 : decode c_M_best 13 = .ok (.iconst 0, 1) ∧ 13 + 1 = 14 := by decide +kernel
theorem d_M_best_14 : decode c_M_best 14 = .ok (.istore_n 2, 1) ∧ 14 + 1 = 15 := by decide +kernel
theorem d_M_best_15 : decode c_M_best 15 = .ok (.iconst 1, 1) ∧ 15 + 1 = 16 := by decide +kernel
theorem d_M_best_16 : decode c_M_best 16 = .ok (.istore_n 3, 1) ∧ 16 + 1 = 17 := by decide +kernel
theorem d_M_best_17 : decode c_M_best 17 = .ok (.iload_n 3, 1) ∧ 17 + 1 = 18 := by decide +kernel
theorem d_M_best_18 : decode c_M_best 18 = .ok (.iconst 1, 1) ∧ 18 + 1 = 19 := by decide +kernel
theorem d_M_best_19 : decode c_M_best 19 = .ok (.aload_n 0, 1) ∧ 19 + 1 = 20 := by decide +kernel
theorem d_M_best_20 : decode c_M_best 20 = .ok (.getfield 443, 3) ∧ 20 + 3 = 23 := by decide +kernel
theorem d_M_best_23 : decode c_M_best 23 = .ok (.ishl, 1) ∧ 23 + 1 = 24 := by decide +kernel
theorem d_M_best_24 : decode c_M_best 24 = .ok (.if_icmp .ge 36, 3) ∧ 24 + 3 = 27 ∧ ((24 : Nat) : Int) + 36 = ((60 : Nat) : Int) := by decide +kernel
theorem d_M_best_27 : decode c_M_best 27 = .ok (.aload_n 0, 1) ∧ 27 + 1 = 28 := by decide +kernel
theorem d_M_best_28 : decode c_M_best 28 = .ok (.iload_n 3, 1) ∧ 28 + 1 = 29 := by decide +kernel
theorem d_M_best_29 : decode c_M_best 29 = .ok (.invokevirtual 446, 3) ∧ 29 + 3 = 32 := by decide +kernel
theorem d_M_best_32 : decode c_M_best 32 = .ok (.ifCond .eq 20, 3) ∧ 32 + 3 = 35 ∧ ((32 : Nat) : Int) + 20 = ((52 : Nat) : Int) := by decide +kernel
theorem d_M_best_35 : decode c_M_best 35 = .ok (.aload_n 0, 1) ∧ 35 + 1 = 36 := by decide +kernel
theorem d_M_best_36 : decode c_M_best 36 = .ok (.iload_n 3, 1) ∧ 36 + 1 = 37 := by decide +kernel
theorem d_M_best_37 : decode c_M_best 37 = .ok (.invokevirtual 449, 3) ∧ 37 + 3 = 40 := by decide +kernel
theorem d_M_best_40 : decode c_M_best 40 = .ok (.aload_n 0, 1) ∧ 40 + 1 = 41 := by decide +kernel
theorem d_M_best_41 : decode c_M_best 41 = .ok (.iload_n 2, 1) ∧ 41 + 1 = 42 := by decide +kernel
theorem d_M_best_42 : decode c_M_best 42 = .ok (.invokevirtual 449, 3) ∧ 42 + 3 = 45 := by decide +kernel
theorem d_M_best_45 : decode c_M_best 45 = .ok (.if_icmp .le 7, 3) ∧ 45 + 3 = 48 ∧ ((45 : Nat) : Int) + 7 = ((52 : Nat) : Int) := by decide +kernel
theorem d_M_best_48 : decode c_M_best 48 = .ok (.iload_n 3, 1) ∧ 48 + 1 = 49 := by decide +kernel
theorem d_M_best_49 : decode c_M_best 49 = .ok (.goto 4, 3) ∧ (49 : Int) + 4 = (53 : Int) := by decide +kernel
theorem d_M_best_52 : decode c_M_best 52 = .ok (.iload_n 2, 1) ∧ 52 + 1 = 53 := by decide +kernel
theorem d_M_best_53 : decode c_M_best 53 = .ok (.istore_n 2, 1) ∧ 53 + 1 = 54 := by decide +kernel
theorem d_M_best_54 : decode c_M_best 54 = .ok (.iinc 3 1, 3) ∧ 54 + 3 = 57 := by decide +kernel
theorem d_M_best_57 : decode c_M_best 57 = .ok (.goto (-40), 3) ∧ (57 : Int) + (-40) = (17 : Int) := by decide +kernel
theorem d_M_best_60 : decode c_M_best 60 = .ok (.iload_n 1, 1) ∧ 60 + 1 = 61 := by decide +kernel
theorem d_M_best_61 : decode c_M_best 61 = .ok (.ifCond .ne 7, 3) ∧ 61 + 3 = 64 ∧ ((61 : Nat) : Int) + 7 = ((68 : Nat) : Int) := by decide +kernel
theorem d_M_best_64 : decode c_M_best 64 = .ok (.iload_n 2, 1) ∧ 64 + 1 = 65 := by decide +kernel
theorem d_M_best_65 : decode c_M_best 65 = .ok (.goto 8, 3) ∧ (65 : Int) + 8 = (73 : Int) := by decide +kernel
theorem d_M_best_68 : decode c_M_best 68 = .ok (.aload_n 0, 1) ∧ 68 + 1 = 69 := by decide +kernel
theorem d_M_best_69 : decode c_M_best 69 = .ok (.iload_n 2, 1) ∧ 69 + 1 = 70 := by decide +kernel
theorem d_M_best_70 : decode c_M_best 70 = .ok (.invokevirtual 449, 3) ∧ 70 + 3 = 73 := by decide +kernel
theorem d_M_best_73 : decode c_M_best 73 = .ok (.ireturn, 1) ∧ 73 + 1 = 74 := by decide +kernel
set_option maxHeartbeats 4000000 in
theorem w_M_best_L17 {Z : Sy} {Γ : Nat → List (Nat × Value) → List Value → St → Prop} {res : Int32} {x1 : Int32} {σ : St} (h : IsG YM Z R_M c_M_best 4 3 (some .int) (some (.int res)) σ Γ) : ∀ (n : Nat) (x2 : Int32) (x3 : Int32), M_best_L17 x1 σ n x2 x3 = some res → Γ 17 [(0, .ref (ya Z 0)), (1, .int x1), (2, .int x2), (3, .int x3)] [] σ := by
  intro n
  induction n with
  | zero => intro x2 x3 hf; exact absurd hf (by simp [M_best_L17])
  | succ n ih =>
    intro x2 x3 hf
    rw [M_best_L17] at hf
    refine r_iload_n h d_M_best_17 3 rfl rfl ?_
    refine r_iconst h d_M_best_18 ki_1 ?_
    refine r_aload_n h d_M_best_19 0 rfl rfl ?_
    refine r_getI h fd_YM_0_68 cf_M fl_M_443 d_M_best_20 ?_
    refine r_ishl h d_M_best_23 ?_
    refine r_icmp_ge h d_M_best_24 hf (fun hf => ?_) (fun hf => ?_)
    · refine r_iload_n h d_M_best_60 1 rfl rfl ?_
      refine r_if_ne h d_M_best_61 hf (fun hf => ?_) (fun hf => ?_)
      · refine r_aload_n h d_M_best_68 0 rfl rfl ?_
        refine r_iload_n h d_M_best_69 2 rfl rfl ?_
        obtain ⟨r70, e70, hf⟩ := q_bind hf
        refine r_callV (As := [.int x2]) (rest := []) h sh_YM_0 lk_M_449 vk_M_449 d_M_best_70 (by decide) rfl rfl (Nat.le_of_ble_eq_true rfl) (m_M_gainOf e70) ?_
        exact r_ireturn h d_M_best_73.1 (Option.some.inj hf) rfl
      · refine r_iload_n h d_M_best_64 2 rfl rfl ?_
        refine r_goto h d_M_best_65 ?_
        exact r_ireturn h d_M_best_73.1 (Option.some.inj hf) rfl
    · refine r_aload_n h d_M_best_27 0 rfl rfl ?_
      refine r_iload_n h d_M_best_28 3 rfl rfl ?_
      obtain ⟨r29, e29, hf⟩ := q_bind hf
      refine r_callV (As := [.int x3]) (rest := []) h sh_YM_0 lk_M_446 vk_M_446 d_M_best_29 (by decide) rfl rfl (Nat.le_of_ble_eq_true rfl) (m_M_mayBe e29) ?_
      refine r_bif_eq h d_M_best_32 hf (fun hf => ?_) (fun hf => ?_)
      · refine r_iload_n h d_M_best_52 2 rfl rfl ?_
        refine r_istore_n (ls' := [(2, .int x2), (0, .ref (ya Z 0)), (1, .int x1), (3, .int x3)]) h d_M_best_53 rfl (by decide) rfl ?_
        refine r_iinc (ls' := [(3, .int (x3 + (1 : Int32))), (2, .int x2), (0, .ref (ya Z 0)), (1, .int x1)]) h d_M_best_54 3 rfl ki_1 (by decide) rfl ?_
        refine r_goto h d_M_best_57 ?_
        refine r_sub h [2, 3, 1, 0] rfl ?_
        exact ih _ _ hf
      · refine r_aload_n h d_M_best_35 0 rfl rfl ?_
        refine r_iload_n h d_M_best_36 3 rfl rfl ?_
        obtain ⟨r37, e37, hf⟩ := q_bind hf
        refine r_callV (As := [.int x3]) (rest := []) h sh_YM_0 lk_M_449 vk_M_449 d_M_best_37 (by decide) rfl rfl (Nat.le_of_ble_eq_true rfl) (m_M_gainOf e37) ?_
        refine r_aload_n h d_M_best_40 0 rfl rfl ?_
        refine r_iload_n h d_M_best_41 2 rfl rfl ?_
        obtain ⟨r42, e42, hf⟩ := q_bind hf
        refine r_callV (As := [.int x2]) (rest := [.int r37]) h sh_YM_0 lk_M_449 vk_M_449 d_M_best_42 (by decide) rfl rfl (Nat.le_of_ble_eq_true rfl) (m_M_gainOf e42) ?_
        refine r_icmp_le h d_M_best_45 hf (fun hf => ?_) (fun hf => ?_)
        · refine r_iload_n h d_M_best_52 2 rfl rfl ?_
          refine r_istore_n (ls' := [(2, .int x2), (0, .ref (ya Z 0)), (1, .int x1), (3, .int x3)]) h d_M_best_53 rfl (by decide) rfl ?_
          refine r_iinc (ls' := [(3, .int (x3 + (1 : Int32))), (2, .int x2), (0, .ref (ya Z 0)), (1, .int x1)]) h d_M_best_54 3 rfl ki_1 (by decide) rfl ?_
          refine r_goto h d_M_best_57 ?_
          refine r_sub h [2, 3, 1, 0] rfl ?_
          exact ih _ _ hf
        · refine r_iload_n h d_M_best_48 3 rfl rfl ?_
          refine r_goto h d_M_best_49 ?_
          refine r_istore_n (ls' := [(2, .int x3), (0, .ref (ya Z 0)), (1, .int x1), (3, .int x3)]) h d_M_best_53 rfl (by decide) rfl ?_
          refine r_iinc (ls' := [(3, .int (x3 + (1 : Int32))), (2, .int x3), (0, .ref (ya Z 0)), (1, .int x1)]) h d_M_best_54 3 rfl ki_1 (by decide) rfl ?_
          refine r_goto h d_M_best_57 ?_
          refine r_sub h [2, 3, 1, 0] rfl ?_
          exact ih _ _ hf

set_option maxHeartbeats 4000000 in
theorem m_M_best {Z : Sy} {σ : St} {res : Int32} {x1 : Int32} (hf : M_best x1 σ = some res) : Ct YM Z y_M_best c_M_best 4 (some .int) 3 [.ref (ya Z 0), .int x1] σ (some (.int res)) σ := by
  refine Ct.of pn_M (Nat.le_of_ble_eq_true rfl) rfl (fun Γ h => ?_)
  have h : IsG YM Z R_M c_M_best 4 3 (some .int) (some (.int res)) σ Γ := h
  unfold M_best at hf
  refine r_iload_n h d_M_best_0 1 rfl rfl ?_
  refine r_i2l h d_M_best_1 ?_
  refine r_lconst h d_M_best_2 kl_0 ?_
  refine r_lconst h d_M_best_3 kl_1 ?_
  obtain ⟨r4, e4, hf⟩ := q_bind hf
  refine r_callS (As := [.long (Int32.toInt64 x1), .long (0 : Int64), .long (1 : Int64)]) (rest := []) h lk_M_201 sk_M_201 d_M_best_4 (by decide) rfl rfl (Nat.le_of_ble_eq_true rfl) (m_M_in e4) ?_
  refine r_bif_ne h d_M_best_7 hf (fun hf => ?_) (fun hf => ?_)
  · refine r_iconst h d_M_best_13 ki_0 ?_
    refine r_istore_n (ls' := [(2, .int (0 : Int32)), (0, .ref (ya Z 0)), (1, .int x1)]) h d_M_best_14 rfl (by decide) rfl ?_
    refine r_iconst h d_M_best_15 ki_1 ?_
    refine r_istore_n (ls' := [(3, .int (1 : Int32)), (2, .int (0 : Int32)), (0, .ref (ya Z 0)), (1, .int x1)]) h d_M_best_16 rfl (by decide) rfl ?_
    refine r_sub h [2, 3, 1, 0] rfl ?_
    exact w_M_best_L17 h _ _ _ hf
  · refine r_bipush h d_M_best_10 kb_m2 ?_
    exact r_ireturn h d_M_best_12.1 (Option.some.inj hf) rfl

