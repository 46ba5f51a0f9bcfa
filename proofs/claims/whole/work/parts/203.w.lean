theorem d_News_note_0 : decode c_News_note 0 = .ok (.aload_n 0, 1) ∧ 0 + 1 = 1 := by decide +kernel
theorem d_News_note_1 : decode c_News_note 1 = .ok (.getfield 17, 3) ∧ 1 + 3 = 4 := by decide +kernel
theorem d_News_note_4 : decode c_News_note 4 = .ok (.iload_n 1, 1) ∧ 4 + 1 = 5 := by decide +kernel
theorem d_News_note_5 : decode c_News_note 5 = .ok (.laload, 1) ∧ 5 + 1 = 6 := by decide +kernel
theorem d_News_note_6 : decode c_News_note 6 = .ok (.aload_n 0, 1) ∧ 6 + 1 = 7 := by decide +kernel
theorem d_News_note_7 : decode c_News_note 7 = .ok (.getfield 21, 3) ∧ 7 + 3 = 10 := by decide +kernel
theorem d_News_note_10 : decode c_News_note 10 = .ok (.iload_n 1, 1) ∧ 10 + 1 = 11 := by decide +kernel
theorem d_News_note_11 : decode c_News_note 11 = .ok (.laload, 1) ∧ 11 + 1 = 12 := by decide +kernel
theorem d_News_note_12 : decode c_News_note 12 = .ok (.ldc2_w 92, 3) ∧ 12 + 3 = 15 := by decide +kernel
theorem d_News_note_15 : decode c_News_note 15 = .ok (.lxor, 1) ∧ 15 + 1 = 16 := by decide +kernel
theorem d_News_note_16 : decode c_News_note 16 = .ok (.land, 1) ∧ 16 + 1 = 17 := by decide +kernel
theorem d_News_note_17 : decode c_News_note 17 = .ok (.lstore 4, 2) ∧ 17 + 2 = 19 := by decide +kernel
theorem d_News_note_19 : decode c_News_note 19 = .ok (.lload 4, 2) ∧ 19 + 2 = 21 := by decide +kernel
theorem d_News_note_21 : decode c_News_note 21 = .ok (.lconst 0, 1) ∧ 21 + 1 = 22 := by decide +kernel
theorem d_News_note_22 : decode c_News_note 22 = .ok (.lcmp, 1) ∧ 22 + 1 = 23 := by decide +kernel
theorem d_News_note_23 : decode c_News_note 23 = .ok (.ifCond .ne 4, 3) ∧ 23 + 3 = 26 ∧ ((23 : Nat) : Int) + 4 = ((27 : Nat) : Int) := by decide +kernel
theorem d_News_note_26 : decode c_News_note 26 = .ok (.return_, 1) ∧ 26 + 1 = 27 := by decide +kernel
theorem d_News_note_27 : decode c_News_note 27 = .ok (.iconst 0, 1) ∧ 27 + 1 = 28 := by decide +kernel
theorem d_News_note_28 : decode c_News_note 28 = .ok (.istore 6, 2) ∧ 28 + 2 = 30 := by decide +kernel
theorem d_News_note_30 : decode c_News_note 30 = .ok (.iload 6, 2) ∧ 30 + 2 = 32 := by decide +kernel
theorem d_News_note_32 : decode c_News_note 32 = .ok (.iload_n 3, 1) ∧ 32 + 1 = 33 := by decide +kernel
theorem d_News_note_33 : decode c_News_note 33 = .ok (.if_icmp .ge 34, 3) ∧ 33 + 3 = 36 ∧ ((33 : Nat) : Int) + 34 = ((67 : Nat) : Int) := by decide +kernel
theorem d_News_note_36 : decode c_News_note 36 = .ok (.lload 4, 2) ∧ 36 + 2 = 38 := by decide +kernel
theorem d_News_note_38 : decode c_News_note 38 = .ok (.iload 6, 2) ∧ 38 + 2 = 40 := by decide +kernel
theorem d_News_note_40 : decode c_News_note 40 = .ok (.lshr, 1) ∧ 40 + 1 = 41 := by decide +kernel
theorem d_News_note_41 : decode c_News_note 41 = .ok (.lconst 1, 1) ∧ 41 + 1 = 42 := by decide +kernel
theorem d_News_note_42 : decode c_News_note 42 = .ok (.land, 1) ∧ 42 + 1 = 43 := by decide +kernel
theorem d_News_note_43 : decode c_News_note 43 = .ok (.lconst 0, 1) ∧ 43 + 1 = 44 := by decide +kernel
theorem d_News_note_44 : decode c_News_note 44 = .ok (.lcmp, 1) ∧ 44 + 1 = 45 := by decide +kernel
theorem d_News_note_45 : decode c_News_note 45 = .ok (.ifCond .eq 16, 3) ∧ 45 + 3 = 48 ∧ ((45 : Nat) : Int) + 16 = ((61 : Nat) : Int) := by decide +kernel
theorem d_News_note_48 : decode c_News_note 48 = .ok (.aload_n 0, 1) ∧ 48 + 1 = 49 := by decide +kernel
theorem d_News_note_49 : decode c_News_note 49 = .ok (.getfield 13, 3) ∧ 49 + 3 = 52 := by decide +kernel
theorem d_News_note_52 : decode c_News_note 52 = .ok (.iload 6, 2) ∧ 52 + 2 = 54 := by decide +kernel
theorem d_News_note_54 : decode c_News_note 54 = .ok (.bipush 7, 2) ∧ 54 + 2 = 56 := by decide +kernel
theorem d_News_note_56 : decode c_News_note 56 = .ok (.imul, 1) ∧ 56 + 1 = 57 := by decide +kernel
theorem d_News_note_57 : decode c_News_note 57 = .ok (.iload_n 1, 1) ∧ 57 + 1 = 58 := by decide +kernel
theorem d_News_note_58 : decode c_News_note 58 = .ok (.iadd, 1) ∧ 58 + 1 = 59 := by decide +kernel
theorem d_News_note_59 : decode c_News_note 59 = .ok (.iload_n 2, 1) ∧ 59 + 1 = 60 := by decide +kernel
theorem d_News_note_60 : decode c_News_note 60 = .ok (.iastore, 1) ∧ 60 + 1 = 61 := by decide +kernel
theorem d_News_note_61 : decode c_News_note 61 = .ok (.iinc 6 1, 3) ∧ 61 + 3 = 64 := by decide +kernel
theorem d_News_note_64 : decode c_News_note 64 = .ok (.goto (-34), 3) ∧ (64 : Int) + (-34) = (30 : Int) := by decide +kernel
theorem d_News_note_67 : decode c_News_note 67 = .ok (.aload_n 0, 1) ∧ 67 + 1 = 68 := by decide +kernel
theorem d_News_note_68 : decode c_News_note 68 = .ok (.getfield 21, 3) ∧ 68 + 3 = 71 := by decide +kernel
theorem d_News_note_71 : decode c_News_note 71 = .ok (.iload_n 1, 1) ∧ 71 + 1 = 72 := by decide +kernel
theorem d_News_note_72 : decode c_News_note 72 = .ok (.aload_n 0, 1) ∧ 72 + 1 = 73 := by decide +kernel
theorem d_News_note_73 : decode c_News_note 73 = .ok (.getfield 17, 3) ∧ 73 + 3 = 76 := by decide +kernel
theorem d_News_note_76 : decode c_News_note 76 = .ok (.iload_n 1, 1) ∧ 76 + 1 = 77 := by decide +kernel
theorem d_News_note_77 : decode c_News_note 77 = .ok (.laload, 1) ∧ 77 + 1 = 78 := by decide +kernel
theorem d_News_note_78 : decode c_News_note 78 = .ok (.lastore, 1) ∧ 78 + 1 = 79 := by decide +kernel
theorem d_News_note_79 : decode c_News_note 79 = .ok (.return_, 1) ∧ 79 + 1 = 80 := by decide +kernel
set_option maxHeartbeats 4000000 in
theorem w_News_note_L30 {Z : Sy} {Γ : Nat → List (Nat × Value) → List Value → St → Prop} {res : St} {x1 : Int32} {x2 : Int32} {x3 : Int32} {x4 : Int64} (h : IsG YC Z R_News c_News_note 7 1 none none res Γ) : ∀ (n : Nat) (x6 : Int32) (σ : St), News_note_L30 x1 x2 x3 x4 n x6 σ = some res → Γ 30 [(0, .ref (ya Z 35)), (1, .int x1), (2, .int x2), (3, .int x3), (4, .long x4), (6, .int x6)] [] σ := by
  intro n
  induction n with
  | zero => intro x6 σ hf; exact absurd hf (by simp [News_note_L30])
  | succ n ih =>
    intro x6 σ hf
    rw [News_note_L30] at hf
    refine r_iload h d_News_note_30 5 rfl ?_
    refine r_iload_n h d_News_note_32 3 rfl rfl ?_
    refine r_icmp_ge h d_News_note_33 hf (fun hf => ?_) (fun hf => ?_)
    · refine r_aload_n h d_News_note_67 0 rfl rfl ?_
      refine r_getR h fd_YC_35_2 cf_News fl_News_21 d_News_note_68 ?_
      refine r_iload_n h d_News_note_71 1 rfl rfl ?_
      refine r_aload_n h d_News_note_72 0 rfl rfl ?_
      refine r_getR h fd_YC_35_1 cf_News fl_News_17 d_News_note_73 ?_
      refine r_iload_n h d_News_note_76 1 rfl rfl ?_
      refine r_lald h sh_YC_37 d_News_note_77 hf (fun hf => ?_)
      refine r_last h sh_YC_38 d_News_note_78 hf (fun hf => ?_)
      exact r_vreturn h d_News_note_79.1 (Option.some.inj hf)
    · refine r_lload h d_News_note_36 4 rfl ?_
      refine r_iload h d_News_note_38 5 rfl ?_
      refine r_lshr h d_News_note_40 ?_
      refine r_lconst h d_News_note_41 kl_1 ?_
      refine r_land h d_News_note_42 ?_
      refine r_lconst h d_News_note_43 kl_0 ?_
      refine r_lif_eq h d_News_note_44 d_News_note_45 hf (fun hf => ?_) (fun hf => ?_)
      · refine r_iinc (ls' := [(6, .int (x6 + (1 : Int32))), (0, .ref (ya Z 35)), (1, .int x1), (2, .int x2), (3, .int x3), (4, .long x4)]) h d_News_note_61 5 rfl ki_1 (by decide) rfl ?_
        refine r_goto h d_News_note_64 ?_
        refine r_sub h [1, 2, 3, 4, 5, 0] rfl ?_
        exact ih _ _ hf
      · refine r_aload_n h d_News_note_48 0 rfl rfl ?_
        refine r_getR h fd_YC_35_0 cf_News fl_News_13 d_News_note_49 ?_
        refine r_iload h d_News_note_52 5 rfl ?_
        refine r_bipush h d_News_note_54 kb_7 ?_
        refine r_imul h d_News_note_56 ?_
        refine r_iload_n h d_News_note_57 1 rfl rfl ?_
        refine r_iadd h d_News_note_58 ?_
        refine r_iload_n h d_News_note_59 2 rfl rfl ?_
        refine r_iast h sh_YC_36 d_News_note_60 hf (fun hf => ?_)
        refine r_iinc (ls' := [(6, .int (x6 + (1 : Int32))), (0, .ref (ya Z 35)), (1, .int x1), (2, .int x2), (3, .int x3), (4, .long x4)]) h d_News_note_61 5 rfl ki_1 (by decide) rfl ?_
        refine r_goto h d_News_note_64 ?_
        refine r_sub h [1, 2, 3, 4, 5, 0] rfl ?_
        exact ih _ _ hf

set_option maxHeartbeats 4000000 in
theorem m_News_note {Z : Sy} {σ : St} {res : St} {x1 : Int32} {x2 : Int32} {x3 : Int32} (hf : News_note x1 x2 x3 σ = some res) : Ct YC Z y_News_note c_News_note 7 none 1 [.ref (ya Z 35), .int x1, .int x2, .int x3] σ none res := by
  refine Ct.of pn_News (Nat.le_of_ble_eq_true rfl) rfl (fun Γ h => ?_)
  have h : IsG YC Z R_News c_News_note 7 1 none none res Γ := h
  unfold News_note at hf
  refine r_aload_n h d_News_note_0 0 rfl rfl ?_
  refine r_getR h fd_YC_35_1 cf_News fl_News_17 d_News_note_1 ?_
  refine r_iload_n h d_News_note_4 1 rfl rfl ?_
  refine r_lald h sh_YC_37 d_News_note_5 hf (fun hf => ?_)
  refine r_aload_n h d_News_note_6 0 rfl rfl ?_
  refine r_getR h fd_YC_35_2 cf_News fl_News_21 d_News_note_7 ?_
  refine r_iload_n h d_News_note_10 1 rfl rfl ?_
  refine r_lald h sh_YC_38 d_News_note_11 hf (fun hf => ?_)
  refine r_ldc2 h d_News_note_12 tm_694 ?_
  refine r_lxor h d_News_note_15 ?_
  refine r_land h d_News_note_16 ?_
  refine r_lstore (ls' := [(4, .long ((σ.2 37 (Int32.toNatClampNeg x1)) &&& ((σ.2 38 (Int32.toNatClampNeg x1)) ^^^ (-1 : Int64)))), (0, .ref (ya Z 35)), (1, .int x1), (2, .int x2), (3, .int x3)]) h d_News_note_17 (by decide) rfl ?_
  refine r_lload h d_News_note_19 0 rfl ?_
  refine r_lconst h d_News_note_21 kl_0 ?_
  refine r_lif_ne h d_News_note_22 d_News_note_23 hf (fun hf => ?_) (fun hf => ?_)
  · refine r_iconst h d_News_note_27 ki_0 ?_
    refine r_istore (ls' := [(6, .int (0 : Int32)), (4, .long ((σ.2 37 (Int32.toNatClampNeg x1)) &&& ((σ.2 38 (Int32.toNatClampNeg x1)) ^^^ (-1 : Int64)))), (0, .ref (ya Z 35)), (1, .int x1), (2, .int x2), (3, .int x3)]) h d_News_note_28 (by decide) rfl ?_
    refine r_sub h [2, 3, 4, 5, 1, 0] rfl ?_
    exact w_News_note_L30 h _ _ _ hf
  · exact r_vreturn h d_News_note_26.1 (Option.some.inj hf)

theorem d_News_learn_0 : decode c_News_learn 0 = .ok (.aload_n 0, 1) ∧ 0 + 1 = 1 := by decide +kernel
theorem d_News_learn_1 : decode c_News_learn 1 = .ok (.getfield 31, 3) ∧ 1 + 3 = 4 := by decide +kernel
theorem d_News_learn_4 : decode c_News_learn 4 = .ok (.ifCond .eq 4, 3) ∧ 4 + 3 = 7 ∧ ((4 : Nat) : Int) + 4 = ((8 : Nat) : Int) := by decide +kernel
theorem d_News_learn_7 : decode c_News_learn 7 = .ok (.return_, 1) ∧ 7 + 1 = 8 := by decide +kernel
theorem d_News_learn_8 : decode c_News_learn 8 = .ok (.aload_n 0, 1) ∧ 8 + 1 = 9 := by decide +kernel
theorem d_News_learn_9 : decode c_News_learn 9 = .ok (.invokevirtual 35, 3) ∧ 9 + 3 = 12 := by decide +kernel
theorem d_News_learn_12 : decode c_News_learn 12 = .ok (.aload_n 1, 1) ∧ 12 + 1 = 13 := by decide +kernel
theorem d_News_learn_13 : decode c_News_learn 13 = .ok (.getfield 38, 3) ∧ 13 + 3 = 16 := by decide +kernel
theorem d_News_learn_16 : decode c_News_learn 16 = .ok (.aload_n 2, 1) ∧ 16 + 1 = 17 := by decide +kernel
theorem d_News_learn_17 : decode c_News_learn 17 = .ok (.getfield 44, 3) ∧ 17 + 3 = 20 := by decide +kernel
theorem d_News_learn_20 : decode c_News_learn 20 = .ok (.iadd, 1) ∧ 20 + 1 = 21 := by decide +kernel
theorem d_News_learn_21 : decode c_News_learn 21 = .ok (.istore 4, 2) ∧ 21 + 2 = 23 := by decide +kernel
theorem d_News_learn_23 : decode c_News_learn 23 = .ok (.iconst (-1), 1) ∧ 23 + 1 = 24 := by decide +kernel
theorem d_News_learn_24 : decode c_News_learn 24 = .ok (.aload_n 1, 1) ∧ 24 + 1 = 25 := by decide +kernel
theorem d_News_learn_25 : decode c_News_learn 25 = .ok (.aload_n 2, 1) ∧ 25 + 1 = 26 := by decide +kernel
theorem d_News_learn_26 : decode c_News_learn 26 = .ok (.invokestatic 45, 3) ∧ 26 + 3 = 29 := by decide +kernel
theorem d_News_learn_29 : decode c_News_learn 29 = .ok (.istore 5, 2) ∧ 29 + 2 = 31 := by decide +kernel
theorem d_News_learn_31 : decode c_News_learn 31 = .ok (.iconst 0, 1) ∧ 31 + 1 = 32 := by decide +kernel
theorem d_News_learn_32 : decode c_News_learn 32 = .ok (.istore 6, 2) ∧ 32 + 2 = 34 := by decide +kernel
theorem d_News_learn_34 : decode c_News_learn 34 = .ok (.iload 6, 2) ∧ 34 + 2 = 36 := by decide +kernel
theorem d_News_learn_36 : decode c_News_learn 36 = .ok (.iload 4, 2) ∧ 36 + 2 = 38 := by decide +kernel
theorem d_News_learn_38 : decode c_News_learn 38 = .ok (.if_icmp .ge 73, 3) ∧ 38 + 3 = 41 ∧ ((38 : Nat) : Int) + 73 = ((111 : Nat) : Int) := by decide +kernel
theorem d_News_learn_41 : decode c_News_learn 41 = .ok (.iload 5, 2) ∧ 41 + 2 = 43 := by decide +kernel
theorem d_News_learn_43 : decode c_News_learn 43 = .ok (.sipush 10000, 3) ∧ 43 + 3 = 46 := by decide +kernel
theorem d_News_learn_46 : decode c_News_learn 46 = .ok (.if_icmp .ge 65, 3) ∧ 46 + 3 = 49 ∧ ((46 : Nat) : Int) + 65 = ((111 : Nat) : Int) := by decide +kernel
theorem d_News_learn_49 : decode c_News_learn 49 = .ok (.aload_n 0, 1) ∧ 49 + 1 = 50 := by decide +kernel
theorem d_News_learn_50 : decode c_News_learn 50 = .ok (.iload 5, 2) ∧ 50 + 2 = 52 := by decide +kernel
theorem d_News_learn_52 : decode c_News_learn 52 = .ok (.aload_n 2, 1) ∧ 52 + 1 = 53 := by decide +kernel
theorem d_News_learn_53 : decode c_News_learn 53 = .ok (.aload_n 3, 1) ∧ 53 + 1 = 54 := by decide +kernel
theorem d_News_learn_54 : decode c_News_learn 54 = .ok (.invokevirtual 49, 3) ∧ 54 + 3 = 57 := by decide +kernel
theorem d_News_learn_57 : decode c_News_learn 57 = .ok (.aload_n 0, 1) ∧ 57 + 1 = 58 := by decide +kernel
theorem d_News_learn_58 : decode c_News_learn 58 = .ok (.iload 5, 2) ∧ 58 + 2 = 60 := by decide +kernel
theorem d_News_learn_60 : decode c_News_learn 60 = .ok (.aload_n 1, 1) ∧ 60 + 1 = 61 := by decide +kernel
theorem d_News_learn_61 : decode c_News_learn 61 = .ok (.invokevirtual 53, 3) ∧ 61 + 3 = 64 := by decide +kernel
theorem d_News_learn_64 : decode c_News_learn 64 = .ok (.aload_n 0, 1) ∧ 64 + 1 = 65 := by decide +kernel
theorem d_News_learn_65 : decode c_News_learn 65 = .ok (.invokevirtual 57, 3) ∧ 65 + 3 = 68 := by decide +kernel
theorem d_News_learn_68 : decode c_News_learn 68 = .ok (.iconst 0, 1) ∧ 68 + 1 = 69 := by decide +kernel
theorem d_News_learn_69 : decode c_News_learn 69 = .ok (.istore 7, 2) ∧ 69 + 2 = 71 := by decide +kernel
theorem d_News_learn_71 : decode c_News_learn 71 = .ok (.iload 7, 2) ∧ 71 + 2 = 73 := by decide +kernel
theorem d_News_learn_73 : decode c_News_learn 73 = .ok (.bipush 7, 2) ∧ 73 + 2 = 75 := by decide +kernel
theorem d_News_learn_75 : decode c_News_learn 75 = .ok (.if_icmp .ge 21, 3) ∧ 75 + 3 = 78 ∧ ((75 : Nat) : Int) + 21 = ((96 : Nat) : Int) := by decide +kernel
theorem d_News_learn_78 : decode c_News_learn 78 = .ok (.aload_n 0, 1) ∧ 78 + 1 = 79 := by decide +kernel
theorem d_News_learn_79 : decode c_News_learn 79 = .ok (.iload 7, 2) ∧ 79 + 2 = 81 := by decide +kernel
theorem d_News_learn_81 : decode c_News_learn 81 = .ok (.iload 5, 2) ∧ 81 + 2 = 83 := by decide +kernel
theorem d_News_learn_83 : decode c_News_learn 83 = .ok (.aload_n 2, 1) ∧ 83 + 1 = 84 := by decide +kernel
theorem d_News_learn_84 : decode c_News_learn 84 = .ok (.getfield 44, 3) ∧ 84 + 3 = 87 := by decide +kernel
theorem d_News_learn_87 : decode c_News_learn 87 = .ok (.invokevirtual 60, 3) ∧ 87 + 3 = 90 := by decide +kernel
theorem d_News_learn_90 : decode c_News_learn 90 = .ok (.iinc 7 1, 3) ∧ 90 + 3 = 93 := by decide +kernel
theorem d_News_learn_93 : decode c_News_learn 93 = .ok (.goto (-22), 3) ∧ (93 : Int) + (-22) = (71 : Int) := by decide +kernel
theorem d_News_learn_96 : decode c_News_learn 96 = .ok (.iload 5, 2) ∧ 96 + 2 = 98 := by decide +kernel
theorem d_News_learn_98 : decode c_News_learn 98 = .ok (.aload_n 1, 1) ∧ 98 + 1 = 99 := by decide +kernel
theorem d_News_learn_99 : decode c_News_learn 99 = .ok (.aload_n 2, 1) ∧ 99 + 1 = 100 := by decide +kernel
theorem d_News_learn_100 : decode c_News_learn 100 = .ok (.invokestatic 45, 3) ∧ 100 + 3 = 103 := by decide +kernel
theorem d_News_learn_103 : decode c_News_learn 103 = .ok (.istore 5, 2) ∧ 103 + 2 = 105 := by decide +kernel
theorem d_News_learn_105 : decode c_News_learn 105 = .ok (.iinc 6 1, 3) ∧ 105 + 3 = 108 := by decide +kernel
theorem d_News_learn_108 : decode c_News_learn 108 = .ok (.goto (-74), 3) ∧ (108 : Int) + (-74) = (34 : Int) := by decide +kernel
theorem d_News_learn_111 : decode c_News_learn 111 = .ok (.aload_n 0, 1) ∧ 111 + 1 = 112 := by decide +kernel
theorem d_News_learn_112 : decode c_News_learn 112 = .ok (.iconst 1, 1) ∧ 112 + 1 = 113 := by decide +kernel
theorem d_News_learn_113 : decode c_News_learn 113 = .ok (.putfield 31, 3) ∧ 113 + 3 = 116 := by decide +kernel
theorem d_News_learn_116 : decode c_News_learn 116 = .ok (.return_, 1) ∧ 116 + 1 = 117 := by decide +kernel
set_option maxHeartbeats 4000000 in
theorem w_News_learn_L71 {Z : Sy} {Γ : Nat → List (Nat × Value) → List Value → St → Prop} {res : St} {x4 : Int32} {x5 : Int32} {x6 : Int32} {k34 : Int32 → Int32 → St → Option St} (h : IsG YC Z R_News c_News_learn 8 4 none none res Γ) (hk34 : ∀ (x5 : Int32) (x6 : Int32) (σ : St), k34 x5 x6 σ = some res → Γ 34 [(0, .ref (ya Z 35)), (1, .ref (ya Z 6)), (2, .ref (ya Z 28)), (3, .ref (ya Z 21)), (4, .int x4), (5, .int x5), (6, .int x6)] [] σ) : ∀ (n : Nat) (x7 : Int32) (σ : St), News_learn_L71 x4 x5 x6 k34 n x7 σ = some res → Γ 71 [(0, .ref (ya Z 35)), (1, .ref (ya Z 6)), (2, .ref (ya Z 28)), (3, .ref (ya Z 21)), (4, .int x4), (5, .int x5), (6, .int x6), (7, .int x7)] [] σ := by
  intro n
  induction n with
  | zero => intro x7 σ hf; exact absurd hf (by simp [News_learn_L71])
  | succ n ih =>
    intro x7 σ hf
    rw [News_learn_L71] at hf
    refine r_iload h d_News_learn_71 7 rfl ?_
    refine r_bipush h d_News_learn_73 kb_7 ?_
    refine r_icmp_ge h d_News_learn_75 hf (fun hf => ?_) (fun hf => ?_)
    · refine r_iload h d_News_learn_96 5 rfl ?_
      refine r_aload_n h d_News_learn_98 1 rfl rfl ?_
      refine r_aload_n h d_News_learn_99 2 rfl rfl ?_
      obtain ⟨r100, e100, hf⟩ := q_bind hf
      refine r_callS (As := [.int x5, .ref (ya Z 6), .ref (ya Z 28)]) (rest := []) h lk_News_45 sk_News_45 d_News_learn_100 (by decide) rfl rfl (Nat.le_of_ble_eq_true rfl) (m_News_nextDay e100) ?_
      refine r_istore (ls' := [(5, .int r100), (0, .ref (ya Z 35)), (1, .ref (ya Z 6)), (2, .ref (ya Z 28)), (3, .ref (ya Z 21)), (4, .int x4), (6, .int x6), (7, .int x7)]) h d_News_learn_103 (by decide) rfl ?_
      refine r_iinc (ls' := [(6, .int (x6 + (1 : Int32))), (5, .int r100), (0, .ref (ya Z 35)), (1, .ref (ya Z 6)), (2, .ref (ya Z 28)), (3, .ref (ya Z 21)), (4, .int x4), (7, .int x7)]) h d_News_learn_105 6 rfl ki_1 (by decide) rfl ?_
      refine r_goto h d_News_learn_108 ?_
      refine r_sub h [2, 3, 4, 5, 6, 1, 0] rfl ?_
      exact hk34 _ _ _ hf
    · refine r_aload_n h d_News_learn_78 0 rfl rfl ?_
      refine r_iload h d_News_learn_79 7 rfl ?_
      refine r_iload h d_News_learn_81 5 rfl ?_
      refine r_aload_n h d_News_learn_83 2 rfl rfl ?_
      refine r_getI h fd_YC_28_6 cf_Ledger fl_News_44 d_News_learn_84 ?_
      obtain ⟨q87, e87, hf⟩ := q_bind hf
      refine r_callV (As := [.int x7, .int x5, .int (σ.1 28 6)]) (rest := []) h sh_YC_35 lk_News_60 vk_News_60 d_News_learn_87 (by decide) rfl rfl (Nat.le_of_ble_eq_true rfl) (m_News_note e87) ?_
      refine r_iinc (ls' := [(7, .int (x7 + (1 : Int32))), (0, .ref (ya Z 35)), (1, .ref (ya Z 6)), (2, .ref (ya Z 28)), (3, .ref (ya Z 21)), (4, .int x4), (5, .int x5), (6, .int x6)]) h d_News_learn_90 7 rfl ki_1 (by decide) rfl ?_
      refine r_goto h d_News_learn_93 ?_
      refine r_sub h [1, 2, 3, 4, 5, 6, 7, 0] rfl ?_
      exact ih _ _ hf

set_option maxHeartbeats 4000000 in
theorem w_News_learn_L34 {Z : Sy} {Γ : Nat → List (Nat × Value) → List Value → St → Prop} {res : St} {x4 : Int32} (h : IsG YC Z R_News c_News_learn 8 4 none none res Γ) : ∀ (n : Nat) (x5 : Int32) (x6 : Int32) (σ : St), News_learn_L34 x4 n x5 x6 σ = some res → Γ 34 [(0, .ref (ya Z 35)), (1, .ref (ya Z 6)), (2, .ref (ya Z 28)), (3, .ref (ya Z 21)), (4, .int x4), (5, .int x5), (6, .int x6)] [] σ := by
  intro n
  induction n with
  | zero => intro x5 x6 σ hf; exact absurd hf (by simp [News_learn_L34])
  | succ n ih =>
    intro x5 x6 σ hf
    rw [News_learn_L34] at hf
    refine r_iload h d_News_learn_34 6 rfl ?_
    refine r_iload h d_News_learn_36 4 rfl ?_
    refine r_icmp_ge h d_News_learn_38 hf (fun hf => ?_) (fun hf => ?_)
    · refine r_aload_n h d_News_learn_111 0 rfl rfl ?_
      refine r_iconst h d_News_learn_112 ki_1 ?_
      refine r_putX h fd_YC_35_4 cf_News fl_News_31 ⟨rfl, rfl⟩ (ty := .boolean) (by decide) (by decide) d_News_learn_113 ?_
      exact r_vreturn h d_News_learn_116.1 (Option.some.inj hf)
    · refine r_iload h d_News_learn_41 5 rfl ?_
      refine r_sipush h d_News_learn_43 ks_10000 ?_
      refine r_icmp_ge h d_News_learn_46 hf (fun hf => ?_) (fun hf => ?_)
      · refine r_aload_n h d_News_learn_111 0 rfl rfl ?_
        refine r_iconst h d_News_learn_112 ki_1 ?_
        refine r_putX h fd_YC_35_4 cf_News fl_News_31 ⟨rfl, rfl⟩ (ty := .boolean) (by decide) (by decide) d_News_learn_113 ?_
        exact r_vreturn h d_News_learn_116.1 (Option.some.inj hf)
      · refine r_aload_n h d_News_learn_49 0 rfl rfl ?_
        refine r_iload h d_News_learn_50 5 rfl ?_
        refine r_aload_n h d_News_learn_52 2 rfl rfl ?_
        refine r_aload_n h d_News_learn_53 3 rfl rfl ?_
        obtain ⟨q54, e54, hf⟩ := q_bind hf
        refine r_callV (As := [.int x5, .ref (ya Z 28), .ref (ya Z 21)]) (rest := []) h sh_YC_35 lk_News_49 vk_News_49 d_News_learn_54 (by decide) rfl rfl (Nat.le_of_ble_eq_true rfl) (m_News_hearOwn e54) ?_
        refine r_aload_n h d_News_learn_57 0 rfl rfl ?_
        refine r_iload h d_News_learn_58 5 rfl ?_
        refine r_aload_n h d_News_learn_60 1 rfl rfl ?_
        obtain ⟨q61, e61, hf⟩ := q_bind hf
        refine r_callV (As := [.int x5, .ref (ya Z 6)]) (rest := []) h sh_YC_35 lk_News_53 vk_News_53 d_News_learn_61 (by decide) rfl rfl (Nat.le_of_ble_eq_true rfl) (m_News_stand e61) ?_
        refine r_aload_n h d_News_learn_64 0 rfl rfl ?_
        obtain ⟨q65, e65, hf⟩ := q_bind hf
        refine r_callV (As := []) (rest := []) h sh_YC_35 lk_News_57 vk_News_57 d_News_learn_65 (by decide) rfl rfl (Nat.le_of_ble_eq_true rfl) (m_News_speak e65) ?_
        refine r_iconst h d_News_learn_68 ki_0 ?_
        refine r_istore (ls' := [(7, .int (0 : Int32)), (0, .ref (ya Z 35)), (1, .ref (ya Z 6)), (2, .ref (ya Z 28)), (3, .ref (ya Z 21)), (4, .int x4), (5, .int x5), (6, .int x6)]) h d_News_learn_69 (by decide) rfl ?_
        refine r_sub h [1, 2, 3, 4, 5, 6, 7, 0] rfl ?_
        exact w_News_learn_L71 h (fun y5 y6 τ hf => ih y5 y6 τ hf) _ _ _ hf

set_option maxHeartbeats 4000000 in
theorem m_News_learn {Z : Sy} {σ : St} {res : St} (hf : News_learn  σ = some res) : Ct YC Z y_News_learn c_News_learn 8 none 4 [.ref (ya Z 35), .ref (ya Z 6), .ref (ya Z 28), .ref (ya Z 21)] σ none res := by
  refine Ct.of pn_News (Nat.le_of_ble_eq_true rfl) rfl (fun Γ h => ?_)
  have h : IsG YC Z R_News c_News_learn 8 4 none none res Γ := h
  unfold News_learn at hf
  refine r_aload_n h d_News_learn_0 0 rfl rfl ?_
  refine r_getI h fd_YC_35_4 cf_News fl_News_31 d_News_learn_1 ?_
  refine r_if_eq h d_News_learn_4 hf (fun hf => ?_) (fun hf => ?_)
  · refine r_aload_n h d_News_learn_8 0 rfl rfl ?_
    obtain ⟨q9, e9, hf⟩ := q_bind hf
    refine r_callV (As := []) (rest := []) h sh_YC_35 lk_News_35 vk_News_35 d_News_learn_9 (by decide) rfl rfl (Nat.le_of_ble_eq_true rfl) (m_News_forget e9) ?_
    refine r_aload_n h d_News_learn_12 1 rfl rfl ?_
    refine r_getI h fd_YC_6_4 cf_Spans fl_News_38 d_News_learn_13 ?_
    refine r_aload_n h d_News_learn_16 2 rfl rfl ?_
    refine r_getI h fd_YC_28_6 cf_Ledger fl_News_44 d_News_learn_17 ?_
    refine r_iadd h d_News_learn_20 ?_
    refine r_istore (ls' := [(4, .int ((q9.1 6 4) + (q9.1 28 6))), (0, .ref (ya Z 35)), (1, .ref (ya Z 6)), (2, .ref (ya Z 28)), (3, .ref (ya Z 21))]) h d_News_learn_21 (by decide) rfl ?_
    refine r_iconst h d_News_learn_23 ki_m1 ?_
    refine r_aload_n h d_News_learn_24 2 rfl rfl ?_
    refine r_aload_n h d_News_learn_25 3 rfl rfl ?_
    obtain ⟨r26, e26, hf⟩ := q_bind hf
    refine r_callS (As := [.int (-1 : Int32), .ref (ya Z 6), .ref (ya Z 28)]) (rest := []) h lk_News_45 sk_News_45 d_News_learn_26 (by decide) rfl rfl (Nat.le_of_ble_eq_true rfl) (m_News_nextDay e26) ?_
    refine r_istore (ls' := [(5, .int r26), (4, .int ((q9.1 6 4) + (q9.1 28 6))), (0, .ref (ya Z 35)), (1, .ref (ya Z 6)), (2, .ref (ya Z 28)), (3, .ref (ya Z 21))]) h d_News_learn_29 (by decide) rfl ?_
    refine r_iconst h d_News_learn_31 ki_0 ?_
    refine r_istore (ls' := [(6, .int (0 : Int32)), (5, .int r26), (4, .int ((q9.1 6 4) + (q9.1 28 6))), (0, .ref (ya Z 35)), (1, .ref (ya Z 6)), (2, .ref (ya Z 28)), (3, .ref (ya Z 21))]) h d_News_learn_32 (by decide) rfl ?_
    refine r_sub h [3, 4, 5, 6, 2, 1, 0] rfl ?_
    exact w_News_learn_L34 h _ _ _ _ hf
  · exact r_vreturn h d_News_learn_7.1 (Option.some.inj hf)

theorem d_P_knower_0 : decode c_P_knower 0 = .ok (.iload_n 0, 1) ∧ 0 + 1 = 1 := by decide +kernel
theorem d_P_knower_1 : decode c_P_knower 1 = .ok (.iconst (-1), 1) ∧ 1 + 1 = 2 := by decide +kernel
theorem d_P_knower_2 : decode c_P_knower 2 = .ok (.if_icmp .ne 8, 3) ∧ 2 + 3 = 5 ∧ ((2 : Nat) : Int) + 8 = ((10 : Nat) : Int) := by decide +kernel
theorem d_P_knower_5 : decode c_P_knower 5 = .ok (.bipush 6, 2) ∧ 5 + 2 = 7 := by decide +kernel
theorem d_P_knower_7 : decode c_P_knower 7 = .ok (.goto 4, 3) ∧ (7 : Int) + 4 = (11 : Int) := by decide +kernel
theorem d_P_knower_10 : decode c_P_knower 10 = .ok (.iload_n 0, 1) ∧ 10 + 1 = 11 := by decide +kernel
theorem d_P_knower_11 : decode c_P_knower 11 = .ok (.ireturn, 1) ∧ 11 + 1 = 12 := by decide +kernel
set_option maxHeartbeats 4000000 in
theorem m_P_knower {Z : Sy} {σ : St} {res : Int32} {x0 : Int32} (hf : P_knower x0 σ = some res) : Ct YC Z y_P_knower c_P_knower 1 (some .int) 1 [.int x0] σ (some (.int res)) σ := by
  refine Ct.of pn_P (Nat.le_of_ble_eq_true rfl) rfl (fun Γ h => ?_)
  have h : IsG YC Z R_P c_P_knower 1 1 (some .int) (some (.int res)) σ Γ := h
  unfold P_knower at hf
  refine r_iload_n h d_P_knower_0 0 rfl rfl ?_
  refine r_iconst h d_P_knower_1 ki_m1 ?_
  refine r_icmp_ne h d_P_knower_2 hf (fun hf => ?_) (fun hf => ?_)
  · refine r_iload_n h d_P_knower_10 0 rfl rfl ?_
    exact r_ireturn h d_P_knower_11.1 (Option.some.inj hf) rfl
  · refine r_bipush h d_P_knower_5 kb_6 ?_
    refine r_goto h d_P_knower_7 ?_
    exact r_ireturn h d_P_knower_11.1 (Option.some.inj hf) rfl

theorem d_News_firstDay_0 : decode c_News_firstDay 0 = .ok (.aload_n 0, 1) ∧ 0 + 1 = 1 := by decide +kernel
theorem d_News_firstDay_1 : decode c_News_firstDay 1 = .ok (.getfield 13, 3) ∧ 1 + 3 = 4 := by decide +kernel
theorem d_News_firstDay_4 : decode c_News_firstDay 4 = .ok (.iload_n 1, 1) ∧ 4 + 1 = 5 := by decide +kernel
theorem d_News_firstDay_5 : decode c_News_firstDay 5 = .ok (.bipush 7, 2) ∧ 5 + 2 = 7 := by decide +kernel
theorem d_News_firstDay_7 : decode c_News_firstDay 7 = .ok (.imul, 1) ∧ 7 + 1 = 8 := by decide +kernel
theorem d_News_firstDay_8 : decode c_News_firstDay 8 = .ok (.iload_n 2, 1) ∧ 8 + 1 = 9 := by decide +kernel
theorem d_News_firstDay_9 : decode c_News_firstDay 9 = .ok (.iadd, 1) ∧ 9 + 1 = 10 := by decide +kernel
theorem d_News_firstDay_10 : decode c_News_firstDay 10 = .ok (.iaload, 1) ∧ 10 + 1 = 11 := by decide +kernel
theorem d_News_firstDay_11 : decode c_News_firstDay 11 = .ok (.ireturn, 1) ∧ 11 + 1 = 12 := by decide +kernel
set_option maxHeartbeats 4000000 in
theorem m_News_firstDay {Z : Sy} {σ : St} {res : Int32} {x1 : Int32} {x2 : Int32} (hf : News_firstDay x1 x2 σ = some res) : Ct YC Z y_News_firstDay c_News_firstDay 3 (some .int) 1 [.ref (ya Z 35), .int x1, .int x2] σ (some (.int res)) σ := by
  refine Ct.of pn_News (Nat.le_of_ble_eq_true rfl) rfl (fun Γ h => ?_)
  have h : IsG YC Z R_News c_News_firstDay 3 1 (some .int) (some (.int res)) σ Γ := h
  unfold News_firstDay at hf
  refine r_aload_n h d_News_firstDay_0 0 rfl rfl ?_
  refine r_getR h fd_YC_35_0 cf_News fl_News_13 d_News_firstDay_1 ?_
  refine r_iload_n h d_News_firstDay_4 1 rfl rfl ?_
  refine r_bipush h d_News_firstDay_5 kb_7 ?_
  refine r_imul h d_News_firstDay_7 ?_
  refine r_iload_n h d_News_firstDay_8 2 rfl rfl ?_
  refine r_iadd h d_News_firstDay_9 ?_
  refine r_iald h sh_YC_36 d_News_firstDay_10 hf (fun hf => ?_)
  exact r_ireturn h d_News_firstDay_11.1 (Option.some.inj hf) rfl

theorem d_P_known_0 : decode c_P_known 0 = .ok (.iload_n 1, 1) ∧ 0 + 1 = 1 := by decide +kernel
theorem d_P_known_1 : decode c_P_known 1 = .ok (.aload_n 0, 1) ∧ 1 + 1 = 2 := by decide +kernel
theorem d_P_known_2 : decode c_P_known 2 = .ok (.getfield 43, 3) ∧ 2 + 3 = 5 := by decide +kernel
theorem d_P_known_5 : decode c_P_known 5 = .ok (.getfield 169, 3) ∧ 5 + 3 = 8 := by decide +kernel
theorem d_P_known_8 : decode c_P_known 8 = .ok (.invokestatic 96, 3) ∧ 8 + 3 = 11 := by decide +kernel
theorem d_P_known_11 : decode c_P_known 11 = .ok (.ifCond .eq 11, 3) ∧ 11 + 3 = 14 ∧ ((11 : Nat) : Int) + 11 = ((22 : Nat) : Int) := by decide +kernel
theorem d_P_known_14 : decode c_P_known 14 = .ok (.aload_n 0, 1) ∧ 14 + 1 = 15 := by decide +kernel
theorem d_P_known_15 : decode c_P_known 15 = .ok (.iload_n 2, 1) ∧ 15 + 1 = 16 := by decide +kernel
theorem d_P_known_16 : decode c_P_known 16 = .ok (.invokevirtual 199, 3) ∧ 16 + 3 = 19 := by decide +kernel
theorem d_P_known_19 : decode c_P_known 19 = .ok (.ifCond .ne 5, 3) ∧ 19 + 3 = 22 ∧ ((19 : Nat) : Int) + 5 = ((24 : Nat) : Int) := by decide +kernel
theorem d_P_known_22 : decode c_P_known 22 = .ok (.iconst (-1), 1) ∧ 22 + 1 = 23 := by decide +kernel
theorem d_P_known_23 : decode c_P_known 23 = .ok (.ireturn, 1) ∧ 23 + 1 = 24 := by decide +kernel
theorem d_P_known_24 : decode c_P_known 24 = .ok (.aload_n 0, 1) ∧ 24 + 1 = 25 := by decide +kernel
theorem d_P_known_25 : decode c_P_known 25 = .ok (.getfield 50, 3) ∧ 25 + 3 = 28 := by decide +kernel
theorem d_P_known_28 : decode c_P_known 28 = .ok (.aload_n 0, 1) ∧ 28 + 1 = 29 := by decide +kernel
theorem d_P_known_29 : decode c_P_known 29 = .ok (.getfield 23, 3) ∧ 29 + 3 = 32 := by decide +kernel
theorem d_P_known_32 : decode c_P_known 32 = .ok (.aload_n 0, 1) ∧ 32 + 1 = 33 := by decide +kernel
theorem d_P_known_33 : decode c_P_known 33 = .ok (.getfield 43, 3) ∧ 33 + 3 = 36 := by decide +kernel
theorem d_P_known_36 : decode c_P_known 36 = .ok (.aload_n 0, 1) ∧ 36 + 1 = 37 := by decide +kernel
theorem d_P_known_37 : decode c_P_known 37 = .ok (.getfield 36, 3) ∧ 37 + 3 = 40 := by decide +kernel
theorem d_P_known_40 : decode c_P_known 40 = .ok (.invokevirtual 202, 3) ∧ 40 + 3 = 43 := by decide +kernel
theorem d_P_known_43 : decode c_P_known 43 = .ok (.aload_n 0, 1) ∧ 43 + 1 = 44 := by decide +kernel
theorem d_P_known_44 : decode c_P_known 44 = .ok (.getfield 50, 3) ∧ 44 + 3 = 47 := by decide +kernel
theorem d_P_known_47 : decode c_P_known 47 = .ok (.iload_n 1, 1) ∧ 47 + 1 = 48 := by decide +kernel
theorem d_P_known_48 : decode c_P_known 48 = .ok (.iload_n 2, 1) ∧ 48 + 1 = 49 := by decide +kernel
theorem d_P_known_49 : decode c_P_known 49 = .ok (.invokestatic 206, 3) ∧ 49 + 3 = 52 := by decide +kernel
theorem d_P_known_52 : decode c_P_known 52 = .ok (.invokevirtual 209, 3) ∧ 52 + 3 = 55 := by decide +kernel
theorem d_P_known_55 : decode c_P_known 55 = .ok (.ireturn, 1) ∧ 55 + 1 = 56 := by decide +kernel
set_option maxHeartbeats 4000000 in
theorem m_P_known {Z : Sy} {σ : St} {res : (Int32 × St)} {x1 : Int32} {x2 : Int32} (hf : P_known x1 x2 σ = some res) : Ct YC Z y_P_known c_P_known 3 (some .int) 5 [.ref (ya Z 0), .int x1, .int x2] σ (some (.int res.1)) res.2 := by
  refine Ct.of pn_P (Nat.le_of_ble_eq_true rfl) rfl (fun Γ h => ?_)
  have h : IsG YC Z R_P c_P_known 3 5 (some .int) (some (.int res.1)) res.2 Γ := h
  unfold P_known at hf
  refine r_iload_n h d_P_known_0 1 rfl rfl ?_
  refine r_aload_n h d_P_known_1 0 rfl rfl ?_
  refine r_getR h fd_YC_0_5 cf_P fl_P_43 d_P_known_2 ?_
  refine r_getI h fd_YC_28_6 cf_Ledger fl_P_169 d_P_known_5 ?_
  obtain ⟨r8, e8, hf⟩ := q_bind hf
  refine r_callS (As := [.int x1, .int (σ.1 28 6)]) (rest := []) h lk_P_96 sk_P_96 d_P_known_8 (by decide) rfl rfl (Nat.le_of_ble_eq_true rfl) (m_P_isBelow e8) ?_
  refine r_bif_eq h d_P_known_11 hf (fun hf => ?_) (fun hf => ?_)
  · refine r_iconst h d_P_known_22 ki_m1 ?_
    exact r_ireturn h d_P_known_23.1 (q_p1 hf) (q_p2 hf)
  · refine r_aload_n h d_P_known_14 0 rfl rfl ?_
    refine r_iload_n h d_P_known_15 2 rfl rfl ?_
    obtain ⟨r16, e16, hf⟩ := q_bind hf
    refine r_callV (As := [.int x2]) (rest := []) h sh_YC_0 lk_P_199 vk_P_199 d_P_known_16 (by decide) rfl rfl (Nat.le_of_ble_eq_true rfl) (m_P_isKnower e16) ?_
    refine r_bif_ne h d_P_known_19 hf (fun hf => ?_) (fun hf => ?_)
    · refine r_aload_n h d_P_known_24 0 rfl rfl ?_
      refine r_getR h fd_YC_0_6 cf_P fl_P_50 d_P_known_25 ?_
      refine r_aload_n h d_P_known_28 0 rfl rfl ?_
      refine r_getR h fd_YC_0_1 cf_P fl_P_23 d_P_known_29 ?_
      refine r_aload_n h d_P_known_32 0 rfl rfl ?_
      refine r_getR h fd_YC_0_5 cf_P fl_P_43 d_P_known_33 ?_
      refine r_aload_n h d_P_known_36 0 rfl rfl ?_
      refine r_getR h fd_YC_0_4 cf_P fl_P_36 d_P_known_37 ?_
      obtain ⟨q40, e40, hf⟩ := q_bind hf
      refine r_callV (As := [.ref (ya Z 6), .ref (ya Z 28), .ref (ya Z 21)]) (rest := []) h sh_YC_35 lk_P_202 vk_P_202 d_P_known_40 (by decide) rfl rfl (Nat.le_of_ble_eq_true rfl) (m_News_learn e40) ?_
      refine r_aload_n h d_P_known_43 0 rfl rfl ?_
      refine r_getR h fd_YC_0_6 cf_P fl_P_50 d_P_known_44 ?_
      refine r_iload_n h d_P_known_47 1 rfl rfl ?_
      refine r_iload_n h d_P_known_48 2 rfl rfl ?_
      obtain ⟨r49, e49, hf⟩ := q_bind hf
      refine r_callS (As := [.int x2]) (rest := [.int x1, .ref (ya Z 35)]) h lk_P_206 sk_P_206 d_P_known_49 (by decide) rfl rfl (Nat.le_of_ble_eq_true rfl) (m_P_knower e49) ?_
      obtain ⟨r52, e52, hf⟩ := q_bind hf
      refine r_callV (As := [.int x1, .int r49]) (rest := []) h sh_YC_35 lk_P_209 vk_P_209 d_P_known_52 (by decide) rfl rfl (Nat.le_of_ble_eq_true rfl) (m_News_firstDay e52) ?_
      exact r_ireturn h d_P_known_55.1 (q_p1 hf) (q_p2 hf)
    · refine r_iconst h d_P_known_22 ki_m1 ?_
      exact r_ireturn h d_P_known_23.1 (q_p1 hf) (q_p2 hf)

theorem d_News_isKnownOn_0 : decode c_News_isKnownOn 0 = .ok (.aload_n 0, 1) ∧ 0 + 1 = 1 := by decide +kernel
theorem d_News_isKnownOn_1 : decode c_News_isKnownOn 1 = .ok (.iload_n 1, 1) ∧ 1 + 1 = 2 := by decide +kernel
theorem d_News_isKnownOn_2 : decode c_News_isKnownOn 2 = .ok (.iload_n 2, 1) ∧ 2 + 1 = 3 := by decide +kernel
theorem d_News_isKnownOn_3 : decode c_News_isKnownOn 3 = .ok (.invokevirtual 27, 3) ∧ 3 + 3 = 6 := by decide +kernel
theorem d_News_isKnownOn_6 : decode c_News_isKnownOn 6 = .ok (.istore 4, 2) ∧ 6 + 2 = 8 := by decide +kernel
theorem d_News_isKnownOn_8 : decode c_News_isKnownOn 8 = .ok (.iload 4, 2) ∧ 8 + 2 = 10 := by decide +kernel
theorem d_News_isKnownOn_10 : decode c_News_isKnownOn 10 = .ok (.bipush (-9), 2) ∧ 10 + 2 = 12 := by decide +kernel
theorem d_News_isKnownOn_12 : decode c_News_isKnownOn 12 = .ok (.if_icmp .eq 13, 3) ∧ 12 + 3 = 15 ∧ ((12 : Nat) : Int) + 13 = ((25 : Nat) : Int) := by decide +kernel
theorem d_News_isKnownOn_15 : decode c_News_isKnownOn 15 = .ok (.iload 4, 2) ∧ 15 + 2 = 17 := by decide +kernel
theorem d_News_isKnownOn_17 : decode c_News_isKnownOn 17 = .ok (.iload_n 3, 1) ∧ 17 + 1 = 18 := by decide +kernel
theorem d_News_isKnownOn_18 : decode c_News_isKnownOn 18 = .ok (.if_icmp .gt 7, 3) ∧ 18 + 3 = 21 ∧ ((18 : Nat) : Int) + 7 = ((25 : Nat) : Int) := by decide +kernel
theorem d_News_isKnownOn_21 : decode c_News_isKnownOn 21 = .ok (.iconst 1, 1) ∧ 21 + 1 = 22 := by decide +kernel
theorem d_News_isKnownOn_22 : decode c_News_isKnownOn 22 = .ok (.goto 4, 3) ∧ (22 : Int) + 4 = (26 : Int) := by decide +kernel
theorem d_News_isKnownOn_25 : decode c_News_isKnownOn 25 = .ok (.iconst 0, 1) ∧ 25 + 1 = 26 := by decide +kernel
theorem d_News_isKnownOn_26 : decode c_News_isKnownOn 26 = .ok (.ireturn, 1) ∧ 26 + 1 = 27 := by decide +kernel
set_option maxHeartbeats 4000000 in
theorem m_News_isKnownOn {Z : Sy} {σ : St} {res : Bool} {x1 : Int32} {x2 : Int32} {x3 : Int32} (hf : News_isKnownOn x1 x2 x3 σ = some res) : Ct YC Z y_News_isKnownOn c_News_isKnownOn 5 (some .boolean) 2 [.ref (ya Z 35), .int x1, .int x2, .int x3] σ (some (.int (bi res))) σ := by
  refine Ct.of pn_News (Nat.le_of_ble_eq_true rfl) rfl (fun Γ h => ?_)
  have h : IsG YC Z R_News c_News_isKnownOn 5 2 (some .boolean) (some (.int (bi res))) σ Γ := h
  unfold News_isKnownOn at hf
  refine r_aload_n h d_News_isKnownOn_0 0 rfl rfl ?_
  refine r_iload_n h d_News_isKnownOn_1 1 rfl rfl ?_
  refine r_iload_n h d_News_isKnownOn_2 2 rfl rfl ?_
  obtain ⟨r3, e3, hf⟩ := q_bind hf
  refine r_callV (As := [.int x1, .int x2]) (rest := []) h sh_YC_35 lk_News_27 vk_News_27 d_News_isKnownOn_3 (by decide) rfl rfl (Nat.le_of_ble_eq_true rfl) (m_News_firstDay e3) ?_
  refine r_istore (ls' := [(4, .int r3), (0, .ref (ya Z 35)), (1, .int x1), (2, .int x2), (3, .int x3)]) h d_News_isKnownOn_6 (by decide) rfl ?_
  refine r_iload h d_News_isKnownOn_8 0 rfl ?_
  refine r_bipush h d_News_isKnownOn_10 kb_m9 ?_
  refine r_icmp_eq h d_News_isKnownOn_12 hf (fun hf => ?_) (fun hf => ?_)
  · refine r_iconst h d_News_isKnownOn_25 ki_0 ?_
    exact r_zreturn h d_News_isKnownOn_26.1 ((show (0 : Int32) = bi false from rfl).trans (congrArg bi (Option.some.inj hf))) rfl
  · refine r_iload h d_News_isKnownOn_15 0 rfl ?_
    refine r_iload_n h d_News_isKnownOn_17 4 rfl rfl ?_
    refine r_icmp_gt h d_News_isKnownOn_18 hf (fun hf => ?_) (fun hf => ?_)
    · refine r_iconst h d_News_isKnownOn_25 ki_0 ?_
      exact r_zreturn h d_News_isKnownOn_26.1 ((show (0 : Int32) = bi false from rfl).trans (congrArg bi (Option.some.inj hf))) rfl
    · refine r_iconst h d_News_isKnownOn_21 ki_1 ?_
      refine r_goto h d_News_isKnownOn_22 ?_
      exact r_zreturn h d_News_isKnownOn_26.1 ((show (1 : Int32) = bi true from rfl).trans (congrArg bi (Option.some.inj hf))) rfl

theorem d_P_as_0 : decode c_P_as 0 = .ok (.aload_n 0, 1) ∧ 0 + 1 = 1 := by decide +kernel
theorem d_P_as_1 : decode c_P_as 1 = .ok (.getfield 36, 3) ∧ 1 + 3 = 4 := by decide +kernel
theorem d_P_as_4 : decode c_P_as 4 = .ok (.iload_n 1, 1) ∧ 4 + 1 = 5 := by decide +kernel
theorem d_P_as_5 : decode c_P_as 5 = .ok (.invokevirtual 146, 3) ∧ 5 + 3 = 8 := by decide +kernel
theorem d_P_as_8 : decode c_P_as 8 = .ok (.ifCond .ne 5, 3) ∧ 8 + 3 = 11 ∧ ((8 : Nat) : Int) + 5 = ((13 : Nat) : Int) := by decide +kernel
theorem d_P_as_11 : decode c_P_as 11 = .ok (.iconst (-1), 1) ∧ 11 + 1 = 12 := by decide +kernel
theorem d_P_as_12 : decode c_P_as 12 = .ok (.ireturn, 1) ∧ 12 + 1 = 13 := by decide +kernel
theorem d_P_as_13 : decode c_P_as 13 = .ok (.iload_n 2, 1) ∧ 13 + 1 = 14 := by decide +kernel
theorem d_P_as_14 : decode c_P_as 14 = .ok (.bipush 8, 2) ∧ 14 + 2 = 16 := by decide +kernel
theorem d_P_as_16 : decode c_P_as 16 = .ok (.invokestatic 96, 3) ∧ 16 + 3 = 19 := by decide +kernel
theorem d_P_as_19 : decode c_P_as 19 = .ok (.ifCond .eq 24, 3) ∧ 19 + 3 = 22 ∧ ((19 : Nat) : Int) + 24 = ((43 : Nat) : Int) := by decide +kernel
theorem d_P_as_22 : decode c_P_as 22 = .ok (.iload_n 3, 1) ∧ 22 + 1 = 23 := by decide +kernel
theorem d_P_as_23 : decode c_P_as 23 = .ok (.sipush 10000, 3) ∧ 23 + 3 = 26 := by decide +kernel
theorem d_P_as_26 : decode c_P_as 26 = .ok (.invokestatic 96, 3) ∧ 26 + 3 = 29 := by decide +kernel
theorem d_P_as_29 : decode c_P_as 29 = .ok (.ifCond .eq 14, 3) ∧ 29 + 3 = 32 ∧ ((29 : Nat) : Int) + 14 = ((43 : Nat) : Int) := by decide +kernel
theorem d_P_as_32 : decode c_P_as 32 = .ok (.iload 4, 2) ∧ 32 + 2 = 34 := by decide +kernel
theorem d_P_as_34 : decode c_P_as 34 = .ok (.sipush 10000, 3) ∧ 34 + 3 = 37 := by decide +kernel
theorem d_P_as_37 : decode c_P_as 37 = .ok (.invokestatic 96, 3) ∧ 37 + 3 = 40 := by decide +kernel
theorem d_P_as_40 : decode c_P_as 40 = .ok (.ifCond .ne 6, 3) ∧ 40 + 3 = 43 ∧ ((40 : Nat) : Int) + 6 = ((46 : Nat) : Int) := by decide +kernel
theorem d_P_as_43 : decode c_P_as 43 = .ok (.bipush (-2), 2) ∧ 43 + 2 = 45 := by decide +kernel
theorem d_P_as_45 : decode c_P_as 45 = .ok (.ireturn, 1) ∧ 45 + 1 = 46 := by decide +kernel
theorem d_P_as_46 : decode c_P_as 46 = .ok (.aload_n 0, 1) ∧ 46 + 1 = 47 := by decide +kernel
theorem d_P_as_47 : decode c_P_as 47 = .ok (.getfield 50, 3) ∧ 47 + 3 = 50 := by decide +kernel
theorem d_P_as_50 : decode c_P_as 50 = .ok (.aload_n 0, 1) ∧ 50 + 1 = 51 := by decide +kernel
theorem d_P_as_51 : decode c_P_as 51 = .ok (.getfield 23, 3) ∧ 51 + 3 = 54 := by decide +kernel
theorem d_P_as_54 : decode c_P_as 54 = .ok (.aload_n 0, 1) ∧ 54 + 1 = 55 := by decide +kernel
theorem d_P_as_55 : decode c_P_as 55 = .ok (.getfield 43, 3) ∧ 55 + 3 = 58 := by decide +kernel
theorem d_P_as_58 : decode c_P_as 58 = .ok (.aload_n 0, 1) ∧ 58 + 1 = 59 := by decide +kernel
theorem d_P_as_59 : decode c_P_as 59 = .ok (.getfield 36, 3) ∧ 59 + 3 = 62 := by decide +kernel
theorem d_P_as_62 : decode c_P_as 62 = .ok (.invokevirtual 202, 3) ∧ 62 + 3 = 65 := by decide +kernel
theorem d_P_as_65 : decode c_P_as 65 = .ok (.iconst 0, 1) ∧ 65 + 1 = 66 := by decide +kernel
theorem d_P_as_66 : decode c_P_as 66 = .ok (.istore 5, 2) ∧ 66 + 2 = 68 := by decide +kernel
theorem d_P_as_68 : decode c_P_as 68 = .ok (.iconst 0, 1) ∧ 68 + 1 = 69 := by decide +kernel
theorem d_P_as_69 : decode c_P_as 69 = .ok (.istore 6, 2) ∧ 69 + 2 = 71 := by decide +kernel
theorem d_P_as_71 : decode c_P_as 71 = .ok (.iload 6, 2) ∧ 71 + 2 = 73 := by decide +kernel
theorem d_P_as_73 : decode c_P_as 73 = .ok (.aload_n 0, 1) ∧ 73 + 1 = 74 := by decide +kernel
theorem d_P_as_74 : decode c_P_as 74 = .ok (.getfield 43, 3) ∧ 74 + 3 = 77 := by decide +kernel
theorem d_P_as_77 : decode c_P_as 77 = .ok (.getfield 169, 3) ∧ 77 + 3 = 80 := by decide +kernel
theorem d_P_as_80 : decode c_P_as 80 = .ok (.if_icmp .ge 42, 3) ∧ 80 + 3 = 83 ∧ ((80 : Nat) : Int) + 42 = ((122 : Nat) : Int) := by decide +kernel
theorem d_P_as_83 : decode c_P_as 83 = .ok (.aload_n 0, 1) ∧ 83 + 1 = 84 := by decide +kernel
theorem d_P_as_84 : decode c_P_as 84 = .ok (.getfield 50, 3) ∧ 84 + 3 = 87 := by decide +kernel
theorem d_P_as_87 : decode c_P_as 87 = .ok (.iload 6, 2) ∧ 87 + 2 = 89 := by decide +kernel
theorem d_P_as_89 : decode c_P_as 89 = .ok (.bipush 6, 2) ∧ 89 + 2 = 91 := by decide +kernel
theorem d_P_as_91 : decode c_P_as 91 = .ok (.iload 4, 2) ∧ 91 + 2 = 93 := by decide +kernel
theorem d_P_as_93 : decode c_P_as 93 = .ok (.invokevirtual 212, 3) ∧ 93 + 3 = 96 := by decide +kernel
theorem d_P_as_96 : decode c_P_as 96 = .ok (.ifCond .eq 20, 3) ∧ 96 + 3 = 99 ∧ ((96 : Nat) : Int) + 20 = ((116 : Nat) : Int) := by decide +kernel
theorem d_P_as_99 : decode c_P_as 99 = .ok (.iload 5, 2) ∧ 99 + 2 = 101 := by decide +kernel
theorem d_P_as_101 : decode c_P_as 101 = .ok (.aload_n 0, 1) ∧ 101 + 1 = 102 := by decide +kernel
theorem d_P_as_102 : decode c_P_as 102 = .ok (.getfield 43, 3) ∧ 102 + 3 = 105 := by decide +kernel
theorem d_P_as_105 : decode c_P_as 105 = .ok (.iload 6, 2) ∧ 105 + 2 = 107 := by decide +kernel
theorem d_P_as_107 : decode c_P_as 107 = .ok (.iload_n 1, 1) ∧ 107 + 1 = 108 := by decide +kernel
theorem d_P_as_108 : decode c_P_as 108 = .ok (.iload_n 2, 1) ∧ 108 + 1 = 109 := by decide +kernel
theorem d_P_as_109 : decode c_P_as 109 = .ok (.iload_n 3, 1) ∧ 109 + 1 = 110 := by decide +kernel
theorem d_P_as_110 : decode c_P_as 110 = .ok (.invokevirtual 215, 3) ∧ 110 + 3 = 113 := by decide +kernel
theorem d_P_as_113 : decode c_P_as 113 = .ok (.iadd, 1) ∧ 113 + 1 = 114 := by decide +kernel
theorem d_P_as_114 : decode c_P_as 114 = .ok (.istore 5, 2) ∧ 114 + 2 = 116 := by decide +kernel
theorem d_P_as_116 : decode c_P_as 116 = .ok (.iinc 6 1, 3) ∧ 116 + 3 = 119 := by decide +kernel
theorem d_P_as_119 : decode c_P_as 119 = .ok (.goto (-48), 3) ∧ (119 : Int) + (-48) = (71 : Int) := by decide +kernel
theorem d_P_as_122 : decode c_P_as 122 = .ok (.iload 5, 2) ∧ 122 + 2 = 124 := by decide +kernel
theorem d_P_as_124 : decode c_P_as 124 = .ok (.ireturn, 1) ∧ 124 + 1 = 125 := by decide +kernel
set_option maxHeartbeats 4000000 in
theorem w_P_as_L71 {Z : Sy} {Γ : Nat → List (Nat × Value) → List Value → St → Prop} {res : (Int32 × St)} {x1 : Int32} {x2 : Int32} {x3 : Int32} {x4 : Int32} {σ : St} (h : IsG YC Z R_P c_P_as 7 5 (some .int) (some (.int res.1)) res.2 Γ) : ∀ (n : Nat) (x5 : Int32) (x6 : Int32), P_as_L71 x1 x2 x3 x4 σ n x5 x6 = some res → Γ 71 [(0, .ref (ya Z 0)), (1, .int x1), (2, .int x2), (3, .int x3), (4, .int x4), (5, .int x5), (6, .int x6)] [] σ := by
  intro n
  induction n with
  | zero => intro x5 x6 hf; exact absurd hf (by simp [P_as_L71])
  | succ n ih =>
    intro x5 x6 hf
    rw [P_as_L71] at hf
    refine r_iload h d_P_as_71 6 rfl ?_
    refine r_aload_n h d_P_as_73 0 rfl rfl ?_
    refine r_getR h fd_YC_0_5 cf_P fl_P_43 d_P_as_74 ?_
    refine r_getI h fd_YC_28_6 cf_Ledger fl_P_169 d_P_as_77 ?_
    refine r_icmp_ge h d_P_as_80 hf (fun hf => ?_) (fun hf => ?_)
    · refine r_iload h d_P_as_122 5 rfl ?_
      exact r_ireturn h d_P_as_124.1 (q_p1 hf) (q_p2 hf)
    · refine r_aload_n h d_P_as_83 0 rfl rfl ?_
      refine r_getR h fd_YC_0_6 cf_P fl_P_50 d_P_as_84 ?_
      refine r_iload h d_P_as_87 6 rfl ?_
      refine r_bipush h d_P_as_89 kb_6 ?_
      refine r_iload h d_P_as_91 4 rfl ?_
      obtain ⟨r93, e93, hf⟩ := q_bind hf
      refine r_callV (As := [.int x6, .int (6 : Int32), .int x4]) (rest := []) h sh_YC_35 lk_P_212 vk_P_212 d_P_as_93 (by decide) rfl rfl (Nat.le_of_ble_eq_true rfl) (m_News_isKnownOn e93) ?_
      refine r_bif_eq h d_P_as_96 hf (fun hf => ?_) (fun hf => ?_)
      · refine r_iinc (ls' := [(6, .int (x6 + (1 : Int32))), (0, .ref (ya Z 0)), (1, .int x1), (2, .int x2), (3, .int x3), (4, .int x4), (5, .int x5)]) h d_P_as_116 6 rfl ki_1 (by decide) rfl ?_
        refine r_goto h d_P_as_119 ?_
        refine r_sub h [1, 2, 3, 4, 5, 6, 0] rfl ?_
        exact ih _ _ hf
      · refine r_iload h d_P_as_99 5 rfl ?_
        refine r_aload_n h d_P_as_101 0 rfl rfl ?_
        refine r_getR h fd_YC_0_5 cf_P fl_P_43 d_P_as_102 ?_
        refine r_iload h d_P_as_105 6 rfl ?_
        refine r_iload_n h d_P_as_107 1 rfl rfl ?_
        refine r_iload_n h d_P_as_108 2 rfl rfl ?_
        refine r_iload_n h d_P_as_109 3 rfl rfl ?_
        obtain ⟨r110, e110, hf⟩ := q_bind hf
        refine r_callV (As := [.int x6, .int x1, .int x2, .int x3]) (rest := [.int x5]) h sh_YC_28 lk_P_215 vk_P_215 d_P_as_110 (by decide) rfl rfl (Nat.le_of_ble_eq_true rfl) (m_Ledger_change e110) ?_
        refine r_iadd h d_P_as_113 ?_
        refine r_istore (ls' := [(5, .int (x5 + r110)), (0, .ref (ya Z 0)), (1, .int x1), (2, .int x2), (3, .int x3), (4, .int x4), (6, .int x6)]) h d_P_as_114 (by decide) rfl ?_
        refine r_iinc (ls' := [(6, .int (x6 + (1 : Int32))), (5, .int (x5 + r110)), (0, .ref (ya Z 0)), (1, .int x1), (2, .int x2), (3, .int x3), (4, .int x4)]) h d_P_as_116 6 rfl ki_1 (by decide) rfl ?_
        refine r_goto h d_P_as_119 ?_
        refine r_sub h [2, 3, 4, 5, 6, 1, 0] rfl ?_
        exact ih _ _ hf

set_option maxHeartbeats 4000000 in
theorem m_P_as {Z : Sy} {σ : St} {res : (Int32 × St)} {x1 : Int32} {x2 : Int32} {x3 : Int32} {x4 : Int32} (hf : P_as x1 x2 x3 x4 σ = some res) : Ct YC Z y_P_as c_P_as 7 (some .int) 5 [.ref (ya Z 0), .int x1, .int x2, .int x3, .int x4] σ (some (.int res.1)) res.2 := by
  refine Ct.of pn_P (Nat.le_of_ble_eq_true rfl) rfl (fun Γ h => ?_)
  have h : IsG YC Z R_P c_P_as 7 5 (some .int) (some (.int res.1)) res.2 Γ := h
  unfold P_as at hf
  refine r_aload_n h d_P_as_0 0 rfl rfl ?_
  refine r_getR h fd_YC_0_4 cf_P fl_P_36 d_P_as_1 ?_
  refine r_iload_n h d_P_as_4 1 rfl rfl ?_
  obtain ⟨r5, e5, hf⟩ := q_bind hf
  refine r_callV (As := [.int x1]) (rest := []) h sh_YC_21 lk_P_146 vk_P_146 d_P_as_5 (by decide) rfl rfl (Nat.le_of_ble_eq_true rfl) (m_Packs_has e5) ?_
  refine r_bif_ne h d_P_as_8 hf (fun hf => ?_) (fun hf => ?_)
  · refine r_iload_n h d_P_as_13 2 rfl rfl ?_
    refine r_bipush h d_P_as_14 kb_8 ?_
    obtain ⟨r16, e16, hf⟩ := q_bind hf
    refine r_callS (As := [.int x2, .int (8 : Int32)]) (rest := []) h lk_P_96 sk_P_96 d_P_as_16 (by decide) rfl rfl (Nat.le_of_ble_eq_true rfl) (m_P_isBelow e16) ?_
    refine r_bif_eq h d_P_as_19 hf (fun hf => ?_) (fun hf => ?_)
    · refine r_bipush h d_P_as_43 kb_m2 ?_
      exact r_ireturn h d_P_as_45.1 (q_p1 hf) (q_p2 hf)
    · refine r_iload_n h d_P_as_22 3 rfl rfl ?_
      refine r_sipush h d_P_as_23 ks_10000 ?_
      obtain ⟨r26, e26, hf⟩ := q_bind hf
      refine r_callS (As := [.int x3, .int (10000 : Int32)]) (rest := []) h lk_P_96 sk_P_96 d_P_as_26 (by decide) rfl rfl (Nat.le_of_ble_eq_true rfl) (m_P_isBelow e26) ?_
      refine r_bif_eq h d_P_as_29 hf (fun hf => ?_) (fun hf => ?_)
      · refine r_bipush h d_P_as_43 kb_m2 ?_
        exact r_ireturn h d_P_as_45.1 (q_p1 hf) (q_p2 hf)
      · refine r_iload h d_P_as_32 4 rfl ?_
        refine r_sipush h d_P_as_34 ks_10000 ?_
        obtain ⟨r37, e37, hf⟩ := q_bind hf
        refine r_callS (As := [.int x4, .int (10000 : Int32)]) (rest := []) h lk_P_96 sk_P_96 d_P_as_37 (by decide) rfl rfl (Nat.le_of_ble_eq_true rfl) (m_P_isBelow e37) ?_
        refine r_bif_ne h d_P_as_40 hf (fun hf => ?_) (fun hf => ?_)
        · refine r_aload_n h d_P_as_46 0 rfl rfl ?_
          refine r_getR h fd_YC_0_6 cf_P fl_P_50 d_P_as_47 ?_
          refine r_aload_n h d_P_as_50 0 rfl rfl ?_
          refine r_getR h fd_YC_0_1 cf_P fl_P_23 d_P_as_51 ?_
          refine r_aload_n h d_P_as_54 0 rfl rfl ?_
          refine r_getR h fd_YC_0_5 cf_P fl_P_43 d_P_as_55 ?_
          refine r_aload_n h d_P_as_58 0 rfl rfl ?_
          refine r_getR h fd_YC_0_4 cf_P fl_P_36 d_P_as_59 ?_
          obtain ⟨q62, e62, hf⟩ := q_bind hf
          refine r_callV (As := [.ref (ya Z 6), .ref (ya Z 28), .ref (ya Z 21)]) (rest := []) h sh_YC_35 lk_P_202 vk_P_202 d_P_as_62 (by decide) rfl rfl (Nat.le_of_ble_eq_true rfl) (m_News_learn e62) ?_
          refine r_iconst h d_P_as_65 ki_0 ?_
          refine r_istore (ls' := [(5, .int (0 : Int32)), (0, .ref (ya Z 0)), (1, .int x1), (2, .int x2), (3, .int x3), (4, .int x4)]) h d_P_as_66 (by decide) rfl ?_
          refine r_iconst h d_P_as_68 ki_0 ?_
          refine r_istore (ls' := [(6, .int (0 : Int32)), (5, .int (0 : Int32)), (0, .ref (ya Z 0)), (1, .int x1), (2, .int x2), (3, .int x3), (4, .int x4)]) h d_P_as_69 (by decide) rfl ?_
          refine r_sub h [2, 3, 4, 5, 6, 1, 0] rfl ?_
          exact w_P_as_L71 h _ _ _ hf
        · refine r_bipush h d_P_as_43 kb_m2 ?_
          exact r_ireturn h d_P_as_45.1 (q_p1 hf) (q_p2 hf)
  · refine r_iconst h d_P_as_11 ki_m1 ?_
    exact r_ireturn h d_P_as_12.1 (q_p1 hf) (q_p2 hf)

theorem d_P_knows_0 : decode c_P_knows 0 = .ok (.aload_n 0, 1) ∧ 0 + 1 = 1 := by decide +kernel
theorem d_P_knows_1 : decode c_P_knows 1 = .ok (.iload_n 1, 1) ∧ 1 + 1 = 2 := by decide +kernel
theorem d_P_knows_2 : decode c_P_knows 2 = .ok (.invokevirtual 199, 3) ∧ 2 + 3 = 5 := by decide +kernel
theorem d_P_knows_5 : decode c_P_knows 5 = .ok (.ifCond .ne 5, 3) ∧ 5 + 3 = 8 ∧ ((5 : Nat) : Int) + 5 = ((10 : Nat) : Int) := by decide +kernel
theorem d_P_knows_8 : decode c_P_knows 8 = .ok (.iconst (-1), 1) ∧ 8 + 1 = 9 := by decide +kernel
theorem d_P_knows_9 : decode c_P_knows 9 = .ok (.ireturn, 1) ∧ 9 + 1 = 10 := by decide +kernel
theorem d_P_knows_10 : decode c_P_knows 10 = .ok (.iload_n 2, 1) ∧ 10 + 1 = 11 := by decide +kernel
theorem d_P_knows_11 : decode c_P_knows 11 = .ok (.sipush 10000, 3) ∧ 11 + 3 = 14 := by decide +kernel
theorem d_P_knows_14 : decode c_P_knows 14 = .ok (.invokestatic 96, 3) ∧ 14 + 3 = 17 := by decide +kernel
theorem d_P_knows_17 : decode c_P_knows 17 = .ok (.ifCond .ne 6, 3) ∧ 17 + 3 = 20 ∧ ((17 : Nat) : Int) + 6 = ((23 : Nat) : Int) := by decide +kernel
theorem d_P_knows_20 : decode c_P_knows 20 = .ok (.bipush (-2), 2) ∧ 20 + 2 = 22 := by decide +kernel
theorem d_P_knows_22 : decode c_P_knows 22 = .ok (.ireturn, 1) ∧ 22 + 1 = 23 := by decide +kernel
theorem d_P_knows_23 : decode c_P_knows 23 = .ok (.aload_n 0, 1) ∧ 23 + 1 = 24 := by decide +kernel
theorem d_P_knows_24 : decode c_P_knows 24 = .ok (.getfield 50, 3) ∧ 24 + 3 = 27 := by decide +kernel
theorem d_P_knows_27 : decode c_P_knows 27 = .ok (.aload_n 0, 1) ∧ 27 + 1 = 28 := by decide +kernel
theorem d_P_knows_28 : decode c_P_knows 28 = .ok (.getfield 23, 3) ∧ 28 + 3 = 31 := by decide +kernel
theorem d_P_knows_31 : decode c_P_knows 31 = .ok (.aload_n 0, 1) ∧ 31 + 1 = 32 := by decide +kernel
theorem d_P_knows_32 : decode c_P_knows 32 = .ok (.getfield 43, 3) ∧ 32 + 3 = 35 := by decide +kernel
theorem d_P_knows_35 : decode c_P_knows 35 = .ok (.aload_n 0, 1) ∧ 35 + 1 = 36 := by decide +kernel
theorem d_P_knows_36 : decode c_P_knows 36 = .ok (.getfield 36, 3) ∧ 36 + 3 = 39 := by decide +kernel
theorem d_P_knows_39 : decode c_P_knows 39 = .ok (.invokevirtual 202, 3) ∧ 39 + 3 = 42 := by decide +kernel
theorem d_P_knows_42 : decode c_P_knows 42 = .ok (.iconst 0, 1) ∧ 42 + 1 = 43 := by decide +kernel
theorem d_P_knows_43 : decode c_P_knows 43 = .ok (.istore_n 3, 1) ∧ 43 + 1 = 44 := by decide +kernel
theorem d_P_knows_44 : decode c_P_knows 44 = .ok (.iconst 0, 1) ∧ 44 + 1 = 45 := by decide +kernel
theorem d_P_knows_45 : decode c_P_knows 45 = .ok (.istore 4, 2) ∧ 45 + 2 = 47 := by decide +kernel
theorem d_P_knows_47 : decode c_P_knows 47 = .ok (.iload 4, 2) ∧ 47 + 2 = 49 := by decide +kernel
theorem d_P_knows_49 : decode c_P_knows 49 = .ok (.aload_n 0, 1) ∧ 49 + 1 = 50 := by decide +kernel
theorem d_P_knows_50 : decode c_P_knows 50 = .ok (.getfield 43, 3) ∧ 50 + 3 = 53 := by decide +kernel
theorem d_P_knows_53 : decode c_P_knows 53 = .ok (.getfield 169, 3) ∧ 53 + 3 = 56 := by decide +kernel
theorem d_P_knows_56 : decode c_P_knows 56 = .ok (.if_icmp .ge 29, 3) ∧ 56 + 3 = 59 ∧ ((56 : Nat) : Int) + 29 = ((85 : Nat) : Int) := by decide +kernel
theorem d_P_knows_59 : decode c_P_knows 59 = .ok (.aload_n 0, 1) ∧ 59 + 1 = 60 := by decide +kernel
theorem d_P_knows_60 : decode c_P_knows 60 = .ok (.getfield 50, 3) ∧ 60 + 3 = 63 := by decide +kernel
theorem d_P_knows_63 : decode c_P_knows 63 = .ok (.iload 4, 2) ∧ 63 + 2 = 65 := by decide +kernel
theorem d_P_knows_65 : decode c_P_knows 65 = .ok (.iload_n 1, 1) ∧ 65 + 1 = 66 := by decide +kernel
theorem d_P_knows_66 : decode c_P_knows 66 = .ok (.invokestatic 206, 3) ∧ 66 + 3 = 69 := by decide +kernel
theorem d_P_knows_69 : decode c_P_knows 69 = .ok (.iload_n 2, 1) ∧ 69 + 1 = 70 := by decide +kernel
theorem d_P_knows_70 : decode c_P_knows 70 = .ok (.invokevirtual 212, 3) ∧ 70 + 3 = 73 := by decide +kernel
theorem d_P_knows_73 : decode c_P_knows 73 = .ok (.ifCond .eq 6, 3) ∧ 73 + 3 = 76 ∧ ((73 : Nat) : Int) + 6 = ((79 : Nat) : Int) := by decide +kernel
theorem d_P_knows_76 : decode c_P_knows 76 = .ok (.iinc 3 1, 3) ∧ 76 + 3 = 79 := by decide +kernel
theorem d_P_knows_79 : decode c_P_knows 79 = .ok (.iinc 4 1, 3) ∧ 79 + 3 = 82 := by decide +kernel
theorem d_P_knows_82 : decode c_P_knows 82 = .ok (.goto (-35), 3) ∧ (82 : Int) + (-35) = (47 : Int) := by decide +kernel
theorem d_P_knows_85 : decode c_P_knows 85 = .ok (.iload_n 3, 1) ∧ 85 + 1 = 86 := by decide +kernel
theorem d_P_knows_86 : decode c_P_knows 86 = .ok (.ireturn, 1) ∧ 86 + 1 = 87 := by decide +kernel
set_option maxHeartbeats 4000000 in
theorem w_P_knows_L47 {Z : Sy} {Γ : Nat → List (Nat × Value) → List Value → St → Prop} {res : (Int32 × St)} {x1 : Int32} {x2 : Int32} {σ : St} (h : IsG YC Z R_P c_P_knows 5 5 (some .int) (some (.int res.1)) res.2 Γ) : ∀ (n : Nat) (x3 : Int32) (x4 : Int32), P_knows_L47 x1 x2 σ n x3 x4 = some res → Γ 47 [(0, .ref (ya Z 0)), (1, .int x1), (2, .int x2), (3, .int x3), (4, .int x4)] [] σ := by
  intro n
  induction n with
  | zero => intro x3 x4 hf; exact absurd hf (by simp [P_knows_L47])
  | succ n ih =>
    intro x3 x4 hf
    rw [P_knows_L47] at hf
    refine r_iload h d_P_knows_47 4 rfl ?_
    refine r_aload_n h d_P_knows_49 0 rfl rfl ?_
    refine r_getR h fd_YC_0_5 cf_P fl_P_43 d_P_knows_50 ?_
    refine r_getI h fd_YC_28_6 cf_Ledger fl_P_169 d_P_knows_53 ?_
    refine r_icmp_ge h d_P_knows_56 hf (fun hf => ?_) (fun hf => ?_)
    · refine r_iload_n h d_P_knows_85 3 rfl rfl ?_
      exact r_ireturn h d_P_knows_86.1 (q_p1 hf) (q_p2 hf)
    · refine r_aload_n h d_P_knows_59 0 rfl rfl ?_
      refine r_getR h fd_YC_0_6 cf_P fl_P_50 d_P_knows_60 ?_
      refine r_iload h d_P_knows_63 4 rfl ?_
      refine r_iload_n h d_P_knows_65 1 rfl rfl ?_
      obtain ⟨r66, e66, hf⟩ := q_bind hf
      refine r_callS (As := [.int x1]) (rest := [.int x4, .ref (ya Z 35)]) h lk_P_206 sk_P_206 d_P_knows_66 (by decide) rfl rfl (Nat.le_of_ble_eq_true rfl) (m_P_knower e66) ?_
      refine r_iload_n h d_P_knows_69 2 rfl rfl ?_
      obtain ⟨r70, e70, hf⟩ := q_bind hf
      refine r_callV (As := [.int x4, .int r66, .int x2]) (rest := []) h sh_YC_35 lk_P_212 vk_P_212 d_P_knows_70 (by decide) rfl rfl (Nat.le_of_ble_eq_true rfl) (m_News_isKnownOn e70) ?_
      refine r_bif_eq h d_P_knows_73 hf (fun hf => ?_) (fun hf => ?_)
      · refine r_iinc (ls' := [(4, .int (x4 + (1 : Int32))), (0, .ref (ya Z 0)), (1, .int x1), (2, .int x2), (3, .int x3)]) h d_P_knows_79 4 rfl ki_1 (by decide) rfl ?_
        refine r_goto h d_P_knows_82 ?_
        refine r_sub h [1, 2, 3, 4, 0] rfl ?_
        exact ih _ _ hf
      · refine r_iinc (ls' := [(3, .int (x3 + (1 : Int32))), (0, .ref (ya Z 0)), (1, .int x1), (2, .int x2), (4, .int x4)]) h d_P_knows_76 3 rfl ki_1 (by decide) rfl ?_
        refine r_iinc (ls' := [(4, .int (x4 + (1 : Int32))), (3, .int (x3 + (1 : Int32))), (0, .ref (ya Z 0)), (1, .int x1), (2, .int x2)]) h d_P_knows_79 4 rfl ki_1 (by decide) rfl ?_
        refine r_goto h d_P_knows_82 ?_
        refine r_sub h [2, 3, 4, 1, 0] rfl ?_
        exact ih _ _ hf

set_option maxHeartbeats 4000000 in
theorem m_P_knows {Z : Sy} {σ : St} {res : (Int32 × St)} {x1 : Int32} {x2 : Int32} (hf : P_knows x1 x2 σ = some res) : Ct YC Z y_P_knows c_P_knows 5 (some .int) 5 [.ref (ya Z 0), .int x1, .int x2] σ (some (.int res.1)) res.2 := by
  refine Ct.of pn_P (Nat.le_of_ble_eq_true rfl) rfl (fun Γ h => ?_)
  have h : IsG YC Z R_P c_P_knows 5 5 (some .int) (some (.int res.1)) res.2 Γ := h
  unfold P_knows at hf
  refine r_aload_n h d_P_knows_0 0 rfl rfl ?_
  refine r_iload_n h d_P_knows_1 1 rfl rfl ?_
  obtain ⟨r2, e2, hf⟩ := q_bind hf
  refine r_callV (As := [.int x1]) (rest := []) h sh_YC_0 lk_P_199 vk_P_199 d_P_knows_2 (by decide) rfl rfl (Nat.le_of_ble_eq_true rfl) (m_P_isKnower e2) ?_
  refine r_bif_ne h d_P_knows_5 hf (fun hf => ?_) (fun hf => ?_)
  · refine r_iload_n h d_P_knows_10 2 rfl rfl ?_
    refine r_sipush h d_P_knows_11 ks_10000 ?_
    obtain ⟨r14, e14, hf⟩ := q_bind hf
    refine r_callS (As := [.int x2, .int (10000 : Int32)]) (rest := []) h lk_P_96 sk_P_96 d_P_knows_14 (by decide) rfl rfl (Nat.le_of_ble_eq_true rfl) (m_P_isBelow e14) ?_
    refine r_bif_ne h d_P_knows_17 hf (fun hf => ?_) (fun hf => ?_)
    · refine r_aload_n h d_P_knows_23 0 rfl rfl ?_
      refine r_getR h fd_YC_0_6 cf_P fl_P_50 d_P_knows_24 ?_
      refine r_aload_n h d_P_knows_27 0 rfl rfl ?_
      refine r_getR h fd_YC_0_1 cf_P fl_P_23 d_P_knows_28 ?_
      refine r_aload_n h d_P_knows_31 0 rfl rfl ?_
      refine r_getR h fd_YC_0_5 cf_P fl_P_43 d_P_knows_32 ?_
      refine r_aload_n h d_P_knows_35 0 rfl rfl ?_
      refine r_getR h fd_YC_0_4 cf_P fl_P_36 d_P_knows_36 ?_
      obtain ⟨q39, e39, hf⟩ := q_bind hf
      refine r_callV (As := [.ref (ya Z 6), .ref (ya Z 28), .ref (ya Z 21)]) (rest := []) h sh_YC_35 lk_P_202 vk_P_202 d_P_knows_39 (by decide) rfl rfl (Nat.le_of_ble_eq_true rfl) (m_News_learn e39) ?_
      refine r_iconst h d_P_knows_42 ki_0 ?_
      refine r_istore_n (ls' := [(3, .int (0 : Int32)), (0, .ref (ya Z 0)), (1, .int x1), (2, .int x2)]) h d_P_knows_43 rfl (by decide) rfl ?_
      refine r_iconst h d_P_knows_44 ki_0 ?_
      refine r_istore (ls' := [(4, .int (0 : Int32)), (3, .int (0 : Int32)), (0, .ref (ya Z 0)), (1, .int x1), (2, .int x2)]) h d_P_knows_45 (by decide) rfl ?_
      refine r_sub h [2, 3, 4, 1, 0] rfl ?_
      exact w_P_knows_L47 h _ _ _ hf
    · refine r_bipush h d_P_knows_20 kb_m2 ?_
      exact r_ireturn h d_P_knows_22.1 (q_p1 hf) (q_p2 hf)
  · refine r_iconst h d_P_knows_8 ki_m1 ?_
    exact r_ireturn h d_P_knows_9.1 (q_p1 hf) (q_p2 hf)

theorem d_Texts_digitsFrom_0 : decode c_Texts_digitsFrom 0 = .ok (.iconst 4, 1) ∧ 0 + 1 = 1 := by decide +kernel
theorem d_Texts_digitsFrom_1 : decode c_Texts_digitsFrom 1 = .ok (.iload_n 3, 1) ∧ 1 + 1 = 2 := by decide +kernel
theorem d_Texts_digitsFrom_2 : decode c_Texts_digitsFrom 2 = .ok (.invokestatic 70, 3) ∧ 2 + 3 = 5 := by decide +kernel
theorem d_Texts_digitsFrom_5 : decode c_Texts_digitsFrom 5 = .ok (.istore 4, 2) ∧ 5 + 2 = 7 := by decide +kernel
theorem d_Texts_digitsFrom_7 : decode c_Texts_digitsFrom 7 = .ok (.iconst 0, 1) ∧ 7 + 1 = 8 := by decide +kernel
theorem d_Texts_digitsFrom_8 : decode c_Texts_digitsFrom 8 = .ok (.istore 5, 2) ∧ 8 + 2 = 10 := by decide +kernel
theorem d_Texts_digitsFrom_10 : decode c_Texts_digitsFrom 10 = .ok (.iload 5, 2) ∧ 10 + 2 = 12 := by decide +kernel
theorem d_Texts_digitsFrom_12 : decode c_Texts_digitsFrom 12 = .ok (.iload 4, 2) ∧ 12 + 2 = 14 := by decide +kernel
theorem d_Texts_digitsFrom_14 : decode c_Texts_digitsFrom 14 = .ok (.if_icmp .ge 37, 3) ∧ 14 + 3 = 17 ∧ ((14 : Nat) : Int) + 37 = ((51 : Nat) : Int) := by decide +kernel
theorem d_Texts_digitsFrom_17 : decode c_Texts_digitsFrom 17 = .ok (.aload_n 0, 1) ∧ 17 + 1 = 18 := by decide +kernel
theorem d_Texts_digitsFrom_18 : decode c_Texts_digitsFrom 18 = .ok (.iload_n 1, 1) ∧ 18 + 1 = 19 := by decide +kernel
theorem d_Texts_digitsFrom_19 : decode c_Texts_digitsFrom 19 = .ok (.iload_n 2, 1) ∧ 19 + 1 = 20 := by decide +kernel
theorem d_Texts_digitsFrom_20 : decode c_Texts_digitsFrom 20 = .ok (.iload 5, 2) ∧ 20 + 2 = 22 := by decide +kernel
theorem d_Texts_digitsFrom_22 : decode c_Texts_digitsFrom 22 = .ok (.iadd, 1) ∧ 22 + 1 = 23 := by decide +kernel
theorem d_Texts_digitsFrom_23 : decode c_Texts_digitsFrom 23 = .ok (.invokevirtual 40, 3) ∧ 23 + 3 = 26 := by decide +kernel
theorem d_Texts_digitsFrom_26 : decode c_Texts_digitsFrom 26 = .ok (.istore 6, 2) ∧ 26 + 2 = 28 := by decide +kernel
theorem d_Texts_digitsFrom_28 : decode c_Texts_digitsFrom 28 = .ok (.iload 6, 2) ∧ 28 + 2 = 30 := by decide +kernel
theorem d_Texts_digitsFrom_30 : decode c_Texts_digitsFrom 30 = .ok (.bipush 48, 2) ∧ 30 + 2 = 32 := by decide +kernel
theorem d_Texts_digitsFrom_32 : decode c_Texts_digitsFrom 32 = .ok (.if_icmp .lt 10, 3) ∧ 32 + 3 = 35 ∧ ((32 : Nat) : Int) + 10 = ((42 : Nat) : Int) := by decide +kernel
theorem d_Texts_digitsFrom_35 : decode c_Texts_digitsFrom 35 = .ok (.iload 6, 2) ∧ 35 + 2 = 37 := by decide +kernel
theorem d_Texts_digitsFrom_37 : decode c_Texts_digitsFrom 37 = .ok (.bipush 57, 2) ∧ 37 + 2 = 39 := by decide +kernel
theorem d_Texts_digitsFrom_39 : decode c_Texts_digitsFrom 39 = .ok (.if_icmp .le 6, 3) ∧ 39 + 3 = 42 ∧ ((39 : Nat) : Int) + 6 = ((45 : Nat) : Int) := by decide +kernel
theorem d_Texts_digitsFrom_42 : decode c_Texts_digitsFrom 42 = .ok (.iload 5, 2) ∧ 42 + 2 = 44 := by decide +kernel
theorem d_Texts_digitsFrom_44 : decode c_Texts_digitsFrom 44 = .ok (.ireturn, 1) ∧ 44 + 1 = 45 := by decide +kernel
theorem d_Texts_digitsFrom_45 : decode c_Texts_digitsFrom 45 = .ok (.iinc 5 1, 3) ∧ 45 + 3 = 48 := by decide +kernel
theorem d_Texts_digitsFrom_48 : decode c_Texts_digitsFrom 48 = .ok (.goto (-38), 3) ∧ (48 : Int) + (-38) = (10 : Int) := by decide +kernel
theorem d_Texts_digitsFrom_51 : decode c_Texts_digitsFrom 51 = .ok (.iload 4, 2) ∧ 51 + 2 = 53 := by decide +kernel
theorem d_Texts_digitsFrom_53 : decode c_Texts_digitsFrom 53 = .ok (.ireturn, 1) ∧ 53 + 1 = 54 := by decide +kernel
set_option maxHeartbeats 4000000 in
theorem w_Texts_digitsFrom_L10 {Z : Sy} {Γ : Nat → List (Nat × Value) → List Value → St → Prop} {res : Int32} {x1 : Int32} {x2 : Int32} {x4 : Int32} {σ : St} (h : IsG YC Z R_Texts c_Texts_digitsFrom 7 2 (some .int) (some (.int res)) σ Γ) : ∀ (n : Nat) (x5 : Int32), Texts_digitsFrom_L10 x1 x2 x4 σ n x5 = some res → Γ 10 [(0, .ref (ya Z 74)), (1, .int x1), (2, .int x2), (4, .int x4), (5, .int x5)] [] σ := by
  intro n
  induction n with
  | zero => intro x5 hf; exact absurd hf (by simp [Texts_digitsFrom_L10])
  | succ n ih =>
    intro x5 hf
    rw [Texts_digitsFrom_L10] at hf
    refine r_iload h d_Texts_digitsFrom_10 4 rfl ?_
    refine r_iload h d_Texts_digitsFrom_12 3 rfl ?_
    refine r_icmp_ge h d_Texts_digitsFrom_14 hf (fun hf => ?_) (fun hf => ?_)
    · refine r_iload h d_Texts_digitsFrom_51 3 rfl ?_
      exact r_ireturn h d_Texts_digitsFrom_53.1 (Option.some.inj hf) rfl
    · refine r_aload_n h d_Texts_digitsFrom_17 0 rfl rfl ?_
      refine r_iload_n h d_Texts_digitsFrom_18 1 rfl rfl ?_
      refine r_iload_n h d_Texts_digitsFrom_19 2 rfl rfl ?_
      refine r_iload h d_Texts_digitsFrom_20 4 rfl ?_
      refine r_iadd h d_Texts_digitsFrom_22 ?_
      obtain ⟨r23, e23, hf⟩ := q_bind hf
      refine r_callV (As := [.int x1, .int (x2 + x5)]) (rest := []) h sh_YC_74 lk_Texts_40 vk_Texts_40 d_Texts_digitsFrom_23 (by decide) rfl rfl (Nat.le_of_ble_eq_true rfl) (m_Sheets_valueAt e23) ?_
      refine r_istore (ls' := [(6, .int r23), (0, .ref (ya Z 74)), (1, .int x1), (2, .int x2), (4, .int x4), (5, .int x5)]) h d_Texts_digitsFrom_26 (by decide) rfl ?_
      refine r_iload h d_Texts_digitsFrom_28 0 rfl ?_
      refine r_bipush h d_Texts_digitsFrom_30 kb_48 ?_
      refine r_icmp_lt h d_Texts_digitsFrom_32 hf (fun hf => ?_) (fun hf => ?_)
      · refine r_iload h d_Texts_digitsFrom_42 5 rfl ?_
        exact r_ireturn h d_Texts_digitsFrom_44.1 (Option.some.inj hf) rfl
      · refine r_iload h d_Texts_digitsFrom_35 0 rfl ?_
        refine r_bipush h d_Texts_digitsFrom_37 kb_57 ?_
        refine r_icmp_le h d_Texts_digitsFrom_39 hf (fun hf => ?_) (fun hf => ?_)
        · refine r_iinc (ls' := [(5, .int (x5 + (1 : Int32))), (6, .int r23), (0, .ref (ya Z 74)), (1, .int x1), (2, .int x2), (4, .int x4)]) h d_Texts_digitsFrom_45 5 rfl ki_1 (by decide) rfl ?_
          refine r_goto h d_Texts_digitsFrom_48 ?_
          refine r_sub h [2, 3, 4, 5, 0] rfl ?_
          exact ih _ hf
        · refine r_iload h d_Texts_digitsFrom_42 5 rfl ?_
          exact r_ireturn h d_Texts_digitsFrom_44.1 (Option.some.inj hf) rfl

set_option maxHeartbeats 4000000 in
theorem m_Texts_digitsFrom {Z : Sy} {σ : St} {res : Int32} {x1 : Int32} {x2 : Int32} {x3 : Int32} (hf : Texts_digitsFrom x1 x2 x3 σ = some res) : Ct YC Z y_Texts_digitsFrom c_Texts_digitsFrom 7 (some .int) 2 [.ref (ya Z 74), .int x1, .int x2, .int x3] σ (some (.int res)) σ := by
  refine Ct.of pn_Texts (Nat.le_of_ble_eq_true rfl) rfl (fun Γ h => ?_)
  have h : IsG YC Z R_Texts c_Texts_digitsFrom 7 2 (some .int) (some (.int res)) σ Γ := h
  unfold Texts_digitsFrom at hf
  refine r_iconst h d_Texts_digitsFrom_0 ki_4 ?_
  refine r_iload_n h d_Texts_digitsFrom_1 3 rfl rfl ?_
  refine r_mmin h ⟨tm_733, tm_734, tm_82, tm_735⟩ (by decide) (Nat.le_of_ble_eq_true rfl) d_Texts_digitsFrom_2 ?_
  refine r_istore (ls' := [(4, .int (miI (4 : Int32) x3)), (0, .ref (ya Z 74)), (1, .int x1), (2, .int x2), (3, .int x3)]) h d_Texts_digitsFrom_5 (by decide) rfl ?_
  refine r_iconst h d_Texts_digitsFrom_7 ki_0 ?_
  refine r_istore (ls' := [(5, .int (0 : Int32)), (4, .int (miI (4 : Int32) x3)), (0, .ref (ya Z 74)), (1, .int x1), (2, .int x2), (3, .int x3)]) h d_Texts_digitsFrom_8 (by decide) rfl ?_
  refine r_sub h [2, 3, 4, 1, 0] rfl ?_
  exact w_Texts_digitsFrom_L10 h _ _ hf

theorem d_Texts_numberOf_0 : decode c_Texts_numberOf 0 = .ok (.iconst 0, 1) ∧ 0 + 1 = 1 := by decide +kernel
theorem d_Texts_numberOf_1 : decode c_Texts_numberOf 1 = .ok (.istore 4, 2) ∧ 1 + 2 = 3 := by decide +kernel
theorem d_Texts_numberOf_3 : decode c_Texts_numberOf 3 = .ok (.iconst 0, 1) ∧ 3 + 1 = 4 := by decide +kernel
theorem d_Texts_numberOf_4 : decode c_Texts_numberOf 4 = .ok (.istore 5, 2) ∧ 4 + 2 = 6 := by decide +kernel
theorem d_Texts_numberOf_6 : decode c_Texts_numberOf 6 = .ok (.iload 5, 2) ∧ 6 + 2 = 8 := by decide +kernel
theorem d_Texts_numberOf_8 : decode c_Texts_numberOf 8 = .ok (.iload_n 3, 1) ∧ 8 + 1 = 9 := by decide +kernel
theorem d_Texts_numberOf_9 : decode c_Texts_numberOf 9 = .ok (.if_icmp .ge 29, 3) ∧ 9 + 3 = 12 ∧ ((9 : Nat) : Int) + 29 = ((38 : Nat) : Int) := by decide +kernel
theorem d_Texts_numberOf_12 : decode c_Texts_numberOf 12 = .ok (.bipush 10, 2) ∧ 12 + 2 = 14 := by decide +kernel
theorem d_Texts_numberOf_14 : decode c_Texts_numberOf 14 = .ok (.iload 4, 2) ∧ 14 + 2 = 16 := by decide +kernel
theorem d_Texts_numberOf_16 : decode c_Texts_numberOf 16 = .ok (.imul, 1) ∧ 16 + 1 = 17 := by decide +kernel
theorem d_Texts_numberOf_17 : decode c_Texts_numberOf 17 = .ok (.aload_n 0, 1) ∧ 17 + 1 = 18 := by decide +kernel
theorem d_Texts_numberOf_18 : decode c_Texts_numberOf 18 = .ok (.iload_n 1, 1) ∧ 18 + 1 = 19 := by decide +kernel
theorem d_Texts_numberOf_19 : decode c_Texts_numberOf 19 = .ok (.iload_n 2, 1) ∧ 19 + 1 = 20 := by decide +kernel
theorem d_Texts_numberOf_20 : decode c_Texts_numberOf 20 = .ok (.iload 5, 2) ∧ 20 + 2 = 22 := by decide +kernel
theorem d_Texts_numberOf_22 : decode c_Texts_numberOf 22 = .ok (.iadd, 1) ∧ 22 + 1 = 23 := by decide +kernel
theorem d_Texts_numberOf_23 : decode c_Texts_numberOf 23 = .ok (.invokevirtual 40, 3) ∧ 23 + 3 = 26 := by decide +kernel
theorem d_Texts_numberOf_26 : decode c_Texts_numberOf 26 = .ok (.iadd, 1) ∧ 26 + 1 = 27 := by decide +kernel
theorem d_Texts_numberOf_27 : decode c_Texts_numberOf 27 = .ok (.bipush 48, 2) ∧ 27 + 2 = 29 := by decide +kernel
theorem d_Texts_numberOf_29 : decode c_Texts_numberOf 29 = .ok (.isub, 1) ∧ 29 + 1 = 30 := by decide +kernel
theorem d_Texts_numberOf_30 : decode c_Texts_numberOf 30 = .ok (.istore 4, 2) ∧ 30 + 2 = 32 := by decide +kernel
theorem d_Texts_numberOf_32 : decode c_Texts_numberOf 32 = .ok (.iinc 5 1, 3) ∧ 32 + 3 = 35 := by decide +kernel
theorem d_Texts_numberOf_35 : decode c_Texts_numberOf 35 = .ok (.goto (-29), 3) ∧ (35 : Int) + (-29) = (6 : Int) := by decide +kernel
theorem d_Texts_numberOf_38 : decode c_Texts_numberOf 38 = .ok (.iload 4, 2) ∧ 38 + 2 = 40 := by decide +kernel
theorem d_Texts_numberOf_40 : decode c_Texts_numberOf 40 = .ok (.ireturn, 1) ∧ 40 + 1 = 41 := by decide +kernel
set_option maxHeartbeats 4000000 in
theorem w_Texts_numberOf_L6 {Z : Sy} {Γ : Nat → List (Nat × Value) → List Value → St → Prop} {res : Int32} {x1 : Int32} {x2 : Int32} {x3 : Int32} {σ : St} (h : IsG YC Z R_Texts c_Texts_numberOf 6 2 (some .int) (some (.int res)) σ Γ) : ∀ (n : Nat) (x4 : Int32) (x5 : Int32), Texts_numberOf_L6 x1 x2 x3 σ n x4 x5 = some res → Γ 6 [(0, .ref (ya Z 74)), (1, .int x1), (2, .int x2), (3, .int x3), (4, .int x4), (5, .int x5)] [] σ := by
  intro n
  induction n with
  | zero => intro x4 x5 hf; exact absurd hf (by simp [Texts_numberOf_L6])
  | succ n ih =>
    intro x4 x5 hf
    rw [Texts_numberOf_L6] at hf
    refine r_iload h d_Texts_numberOf_6 5 rfl ?_
    refine r_iload_n h d_Texts_numberOf_8 3 rfl rfl ?_
    refine r_icmp_ge h d_Texts_numberOf_9 hf (fun hf => ?_) (fun hf => ?_)
    · refine r_iload h d_Texts_numberOf_38 4 rfl ?_
      exact r_ireturn h d_Texts_numberOf_40.1 (Option.some.inj hf) rfl
    · refine r_bipush h d_Texts_numberOf_12 kb_10 ?_
      refine r_iload h d_Texts_numberOf_14 4 rfl ?_
      refine r_imul h d_Texts_numberOf_16 ?_
      refine r_aload_n h d_Texts_numberOf_17 0 rfl rfl ?_
      refine r_iload_n h d_Texts_numberOf_18 1 rfl rfl ?_
      refine r_iload_n h d_Texts_numberOf_19 2 rfl rfl ?_
      refine r_iload h d_Texts_numberOf_20 5 rfl ?_
      refine r_iadd h d_Texts_numberOf_22 ?_
      obtain ⟨r23, e23, hf⟩ := q_bind hf
      refine r_callV (As := [.int x1, .int (x2 + x5)]) (rest := [.int ((10 : Int32) * x4)]) h sh_YC_74 lk_Texts_40 vk_Texts_40 d_Texts_numberOf_23 (by decide) rfl rfl (Nat.le_of_ble_eq_true rfl) (m_Sheets_valueAt e23) ?_
      refine r_iadd h d_Texts_numberOf_26 ?_
      refine r_bipush h d_Texts_numberOf_27 kb_48 ?_
      refine r_isub h d_Texts_numberOf_29 ?_
      refine r_istore (ls' := [(4, .int ((((10 : Int32) * x4) + r23) - (48 : Int32))), (0, .ref (ya Z 74)), (1, .int x1), (2, .int x2), (3, .int x3), (5, .int x5)]) h d_Texts_numberOf_30 (by decide) rfl ?_
      refine r_iinc (ls' := [(5, .int (x5 + (1 : Int32))), (4, .int ((((10 : Int32) * x4) + r23) - (48 : Int32))), (0, .ref (ya Z 74)), (1, .int x1), (2, .int x2), (3, .int x3)]) h d_Texts_numberOf_32 5 rfl ki_1 (by decide) rfl ?_
      refine r_goto h d_Texts_numberOf_35 ?_
      refine r_sub h [2, 3, 4, 5, 1, 0] rfl ?_
      exact ih _ _ hf

set_option maxHeartbeats 4000000 in
theorem m_Texts_numberOf {Z : Sy} {σ : St} {res : Int32} {x1 : Int32} {x2 : Int32} {x3 : Int32} (hf : Texts_numberOf x1 x2 x3 σ = some res) : Ct YC Z y_Texts_numberOf c_Texts_numberOf 6 (some .int) 2 [.ref (ya Z 74), .int x1, .int x2, .int x3] σ (some (.int res)) σ := by
  refine Ct.of pn_Texts (Nat.le_of_ble_eq_true rfl) rfl (fun Γ h => ?_)
  have h : IsG YC Z R_Texts c_Texts_numberOf 6 2 (some .int) (some (.int res)) σ Γ := h
  unfold Texts_numberOf at hf
  refine r_iconst h d_Texts_numberOf_0 ki_0 ?_
  refine r_istore (ls' := [(4, .int (0 : Int32)), (0, .ref (ya Z 74)), (1, .int x1), (2, .int x2), (3, .int x3)]) h d_Texts_numberOf_1 (by decide) rfl ?_
  refine r_iconst h d_Texts_numberOf_3 ki_0 ?_
  refine r_istore (ls' := [(5, .int (0 : Int32)), (4, .int (0 : Int32)), (0, .ref (ya Z 74)), (1, .int x1), (2, .int x2), (3, .int x3)]) h d_Texts_numberOf_4 (by decide) rfl ?_
  refine r_sub h [2, 3, 4, 5, 1, 0] rfl ?_
  exact w_Texts_numberOf_L6 h _ _ _ hf

theorem d_Texts_addRead_0 : decode c_Texts_addRead 0 = .ok (.aload_n 0, 1) ∧ 0 + 1 = 1 := by decide +kernel
theorem d_Texts_addRead_1 : decode c_Texts_addRead 1 = .ok (.getfield 36, 3) ∧ 1 + 3 = 4 := by decide +kernel
theorem d_Texts_addRead_4 : decode c_Texts_addRead 4 = .ok (.bipush 6, 2) ∧ 4 + 2 = 6 := by decide +kernel
theorem d_Texts_addRead_6 : decode c_Texts_addRead 6 = .ok (.if_icmp .lt 4, 3) ∧ 6 + 3 = 9 ∧ ((6 : Nat) : Int) + 4 = ((10 : Nat) : Int) := by decide +kernel
theorem d_Texts_addRead_9 : decode c_Texts_addRead 9 = .ok (.return_, 1) ∧ 9 + 1 = 10 := by decide +kernel
theorem d_Texts_addRead_10 : decode c_Texts_addRead 10 = .ok (.iload_n 1, 1) ∧ 10 + 1 = 11 := by decide +kernel
theorem d_Texts_addRead_11 : decode c_Texts_addRead 11 = .ok (.iconst 4, 1) ∧ 11 + 1 = 12 := by decide +kernel
theorem d_Texts_addRead_12 : decode c_Texts_addRead 12 = .ok (.if_icmp .lt 7, 3) ∧ 12 + 3 = 15 ∧ ((12 : Nat) : Int) + 7 = ((19 : Nat) : Int) := by decide +kernel
theorem d_Texts_addRead_15 : decode c_Texts_addRead 15 = .ok (.iconst 1, 1) ∧ 15 + 1 = 16 := by decide +kernel
theorem d_Texts_addRead_16 : decode c_Texts_addRead 16 = .ok (.goto 4, 3) ∧ (16 : Int) + 4 = (20 : Int) := by decide +kernel
theorem d_Texts_addRead_19 : decode c_Texts_addRead 19 = .ok (.iconst 0, 1) ∧ 19 + 1 = 20 := by decide +kernel
theorem d_Texts_addRead_20 : decode c_Texts_addRead 20 = .ok (.istore_n 3, 1) ∧ 20 + 1 = 21 := by decide +kernel
theorem d_Texts_addRead_21 : decode c_Texts_addRead 21 = .ok (.aload_n 0, 1) ∧ 21 + 1 = 22 := by decide +kernel
theorem d_Texts_addRead_22 : decode c_Texts_addRead 22 = .ok (.getfield 30, 3) ∧ 22 + 3 = 25 := by decide +kernel
theorem d_Texts_addRead_25 : decode c_Texts_addRead 25 = .ok (.aload_n 0, 1) ∧ 25 + 1 = 26 := by decide +kernel
theorem d_Texts_addRead_26 : decode c_Texts_addRead 26 = .ok (.getfield 36, 3) ∧ 26 + 3 = 29 := by decide +kernel
theorem d_Texts_addRead_29 : decode c_Texts_addRead 29 = .ok (.iload_n 3, 1) ∧ 29 + 1 = 30 := by decide +kernel
theorem d_Texts_addRead_30 : decode c_Texts_addRead 30 = .ok (.ifCond .eq 9, 3) ∧ 30 + 3 = 33 ∧ ((30 : Nat) : Int) + 9 = ((39 : Nat) : Int) := by decide +kernel
theorem d_Texts_addRead_33 : decode c_Texts_addRead 33 = .ok (.iconst 4, 1) ∧ 33 + 1 = 34 := by decide +kernel
theorem d_Texts_addRead_34 : decode c_Texts_addRead 34 = .ok (.iload_n 2, 1) ∧ 34 + 1 = 35 := by decide +kernel
theorem d_Texts_addRead_35 : decode c_Texts_addRead 35 = .ok (.iadd, 1) ∧ 35 + 1 = 36 := by decide +kernel
theorem d_Texts_addRead_36 : decode c_Texts_addRead 36 = .ok (.goto 4, 3) ∧ (36 : Int) + 4 = (40 : Int) := by decide +kernel
theorem d_Texts_addRead_39 : decode c_Texts_addRead 39 = .ok (.iload_n 1, 1) ∧ 39 + 1 = 40 := by decide +kernel
theorem d_Texts_addRead_40 : decode c_Texts_addRead 40 = .ok (.iastore, 1) ∧ 40 + 1 = 41 := by decide +kernel
theorem d_Texts_addRead_41 : decode c_Texts_addRead 41 = .ok (.aload_n 0, 1) ∧ 41 + 1 = 42 := by decide +kernel
theorem d_Texts_addRead_42 : decode c_Texts_addRead 42 = .ok (.getfield 33, 3) ∧ 42 + 3 = 45 := by decide +kernel
theorem d_Texts_addRead_45 : decode c_Texts_addRead 45 = .ok (.aload_n 0, 1) ∧ 45 + 1 = 46 := by decide +kernel
theorem d_Texts_addRead_46 : decode c_Texts_addRead 46 = .ok (.getfield 36, 3) ∧ 46 + 3 = 49 := by decide +kernel
theorem d_Texts_addRead_49 : decode c_Texts_addRead 49 = .ok (.iload_n 3, 1) ∧ 49 + 1 = 50 := by decide +kernel
theorem d_Texts_addRead_50 : decode c_Texts_addRead 50 = .ok (.ifCond .eq 9, 3) ∧ 50 + 3 = 53 ∧ ((50 : Nat) : Int) + 9 = ((59 : Nat) : Int) := by decide +kernel
theorem d_Texts_addRead_53 : decode c_Texts_addRead 53 = .ok (.iload_n 1, 1) ∧ 53 + 1 = 54 := by decide +kernel
theorem d_Texts_addRead_54 : decode c_Texts_addRead 54 = .ok (.iconst 4, 1) ∧ 54 + 1 = 55 := by decide +kernel
theorem d_Texts_addRead_55 : decode c_Texts_addRead 55 = .ok (.isub, 1) ∧ 55 + 1 = 56 := by decide +kernel
theorem d_Texts_addRead_56 : decode c_Texts_addRead 56 = .ok (.goto 4, 3) ∧ (56 : Int) + 4 = (60 : Int) := by decide +kernel
theorem d_Texts_addRead_59 : decode c_Texts_addRead 59 = .ok (.iload_n 2, 1) ∧ 59 + 1 = 60 := by decide +kernel
theorem d_Texts_addRead_60 : decode c_Texts_addRead 60 = .ok (.iastore, 1) ∧ 60 + 1 = 61 := by decide +kernel
theorem d_Texts_addRead_61 : decode c_Texts_addRead 61 = .ok (.aload_n 0, 1) ∧ 61 + 1 = 62 := by decide +kernel
theorem d_Texts_addRead_62 : decode c_Texts_addRead 62 = .ok (.dup, 1) ∧ 62 + 1 = 63 := by decide +kernel
theorem d_Texts_addRead_63 : decode c_Texts_addRead 63 = .ok (.getfield 36, 3) ∧ 63 + 3 = 66 := by decide +kernel
theorem d_Texts_addRead_66 : decode c_Texts_addRead 66 = .ok (.iconst 1, 1) ∧ 66 + 1 = 67 := by decide +kernel
theorem d_Texts_addRead_67 : decode c_Texts_addRead 67 = .ok (.iadd, 1) ∧ 67 + 1 = 68 := by decide +kernel
theorem d_Texts_addRead_68 : decode c_Texts_addRead 68 = .ok (.putfield 36, 3) ∧ 68 + 3 = 71 := by decide +kernel
theorem d_Texts_addRead_71 : decode c_Texts_addRead 71 = .ok (.return_, 1) ∧ 71 + 1 = 72 := by decide +kernel
set_option maxHeartbeats 4000000 in
theorem m_Texts_addRead {Z : Sy} {σ : St} {res : St} {x1 : Int32} {x2 : Int32} (hf : Texts_addRead x1 x2 σ = some res) : Ct YC Z y_Texts_addRead c_Texts_addRead 4 none 1 [.ref (ya Z 40), .int x1, .int x2] σ none res := by
  refine Ct.of pn_Texts (Nat.le_of_ble_eq_true rfl) rfl (fun Γ h => ?_)
  have h : IsG YC Z R_Texts c_Texts_addRead 4 1 none none res Γ := h
  unfold Texts_addRead at hf
  refine r_aload_n h d_Texts_addRead_0 0 rfl rfl ?_
  refine r_getI h fd_YC_40_9 cf_Texts fl_Texts_36 d_Texts_addRead_1 ?_
  refine r_bipush h d_Texts_addRead_4 kb_6 ?_
  refine r_icmp_lt h d_Texts_addRead_6 hf (fun hf => ?_) (fun hf => ?_)
  · refine r_iload_n h d_Texts_addRead_10 1 rfl rfl ?_
    refine r_iconst h d_Texts_addRead_11 ki_4 ?_
    refine r_icmp_lt h d_Texts_addRead_12 hf (fun hf => ?_) (fun hf => ?_)
    · refine r_iconst h d_Texts_addRead_19 ki_0 ?_
      refine r_istore_n (ls' := [(3, .int (0 : Int32)), (0, .ref (ya Z 40)), (1, .int x1), (2, .int x2)]) h d_Texts_addRead_20 rfl (by decide) rfl ?_
      refine r_aload_n h d_Texts_addRead_21 1 rfl rfl ?_
      refine r_getR h fd_YC_40_7 cf_Texts fl_Texts_30 d_Texts_addRead_22 ?_
      refine r_aload_n h d_Texts_addRead_25 1 rfl rfl ?_
      refine r_getI h fd_YC_40_9 cf_Texts fl_Texts_36 d_Texts_addRead_26 ?_
      refine r_iload_n h d_Texts_addRead_29 0 rfl rfl ?_
      refine r_if_eq_T h d_Texts_addRead_30 (by decide) ?_
      refine r_iload_n h d_Texts_addRead_39 2 rfl rfl ?_
      refine r_iast h sh_YC_47 d_Texts_addRead_40 hf (fun hf => ?_)
      refine r_aload_n h d_Texts_addRead_41 1 rfl rfl ?_
      refine r_getR h fd_YC_40_8 cf_Texts fl_Texts_33 d_Texts_addRead_42 ?_
      refine r_aload_n h d_Texts_addRead_45 1 rfl rfl ?_
      refine r_getIv (v := (σ.1 40 9)) h fd_YC_40_9 cf_Texts fl_Texts_36 d_Texts_addRead_46 rfl ?_
      refine r_iload_n h d_Texts_addRead_49 0 rfl rfl ?_
      refine r_if_eq_T h d_Texts_addRead_50 (by decide) ?_
      refine r_iload_n h d_Texts_addRead_59 3 rfl rfl ?_
      refine r_iast h sh_YC_48 d_Texts_addRead_60 hf (fun hf => ?_)
      refine r_aload_n h d_Texts_addRead_61 1 rfl rfl ?_
      refine r_dup h d_Texts_addRead_62 rfl ?_
      refine r_getIv (v := (σ.1 40 9)) h fd_YC_40_9 cf_Texts fl_Texts_36 d_Texts_addRead_63 rfl ?_
      refine r_iconst h d_Texts_addRead_66 ki_1 ?_
      refine r_iadd h d_Texts_addRead_67 ?_
      refine r_putI h fd_YC_40_9 cf_Texts fl_Texts_36 ⟨rfl, rfl⟩ d_Texts_addRead_68 ?_
      exact r_vreturn h d_Texts_addRead_71.1 (Option.some.inj hf)
    · refine r_iconst h d_Texts_addRead_15 ki_1 ?_
      refine r_goto h d_Texts_addRead_16 ?_
      refine r_istore_n (ls' := [(3, .int (1 : Int32)), (0, .ref (ya Z 40)), (1, .int x1), (2, .int x2)]) h d_Texts_addRead_20 rfl (by decide) rfl ?_
      refine r_aload_n h d_Texts_addRead_21 1 rfl rfl ?_
      refine r_getR h fd_YC_40_7 cf_Texts fl_Texts_30 d_Texts_addRead_22 ?_
      refine r_aload_n h d_Texts_addRead_25 1 rfl rfl ?_
      refine r_getI h fd_YC_40_9 cf_Texts fl_Texts_36 d_Texts_addRead_26 ?_
      refine r_iload_n h d_Texts_addRead_29 0 rfl rfl ?_
      refine r_if_eq_F h d_Texts_addRead_30 (by decide) ?_
      refine r_iconst h d_Texts_addRead_33 ki_4 ?_
      refine r_iload_n h d_Texts_addRead_34 3 rfl rfl ?_
      refine r_iadd h d_Texts_addRead_35 ?_
      refine r_goto h d_Texts_addRead_36 ?_
      refine r_iast h sh_YC_47 d_Texts_addRead_40 hf (fun hf => ?_)
      refine r_aload_n h d_Texts_addRead_41 1 rfl rfl ?_
      refine r_getR h fd_YC_40_8 cf_Texts fl_Texts_33 d_Texts_addRead_42 ?_
      refine r_aload_n h d_Texts_addRead_45 1 rfl rfl ?_
      refine r_getIv (v := (σ.1 40 9)) h fd_YC_40_9 cf_Texts fl_Texts_36 d_Texts_addRead_46 rfl ?_
      refine r_iload_n h d_Texts_addRead_49 0 rfl rfl ?_
      refine r_if_eq_F h d_Texts_addRead_50 (by decide) ?_
      refine r_iload_n h d_Texts_addRead_53 2 rfl rfl ?_
      refine r_iconst h d_Texts_addRead_54 ki_4 ?_
      refine r_isub h d_Texts_addRead_55 ?_
      refine r_goto h d_Texts_addRead_56 ?_
      refine r_iast h sh_YC_48 d_Texts_addRead_60 hf (fun hf => ?_)
      refine r_aload_n h d_Texts_addRead_61 1 rfl rfl ?_
      refine r_dup h d_Texts_addRead_62 rfl ?_
      refine r_getIv (v := (σ.1 40 9)) h fd_YC_40_9 cf_Texts fl_Texts_36 d_Texts_addRead_63 rfl ?_
      refine r_iconst h d_Texts_addRead_66 ki_1 ?_
      refine r_iadd h d_Texts_addRead_67 ?_
      refine r_putI h fd_YC_40_9 cf_Texts fl_Texts_36 ⟨rfl, rfl⟩ d_Texts_addRead_68 ?_
      exact r_vreturn h d_Texts_addRead_71.1 (Option.some.inj hf)
  · exact r_vreturn h d_Texts_addRead_9.1 (Option.some.inj hf)

theorem d_Texts_letterOf_0 : decode c_Texts_letterOf 0 = .ok (.iconst 0, 1) ∧ 0 + 1 = 1 := by decide +kernel
theorem d_Texts_letterOf_1 : decode c_Texts_letterOf 1 = .ok (.istore_n 1, 1) ∧ 1 + 1 = 2 := by decide +kernel
theorem d_Texts_letterOf_2 : decode c_Texts_letterOf 2 = .ok (.iload_n 1, 1) ∧ 2 + 1 = 3 := by decide +kernel
theorem d_Texts_letterOf_3 : decode c_Texts_letterOf 3 = .ok (.getstatic 67, 3) ∧ 3 + 3 = 6 := by decide +kernel
theorem d_Texts_letterOf_6 : decode c_Texts_letterOf 6 = .ok (.arraylength, 1) ∧ 6 + 1 = 7 := by decide +kernel
theorem d_Texts_letterOf_7 : decode c_Texts_letterOf 7 = .ok (.if_icmp .ge 20, 3) ∧ 7 + 3 = 10 ∧ ((7 : Nat) : Int) + 20 = ((27 : Nat) : Int) := by decide +kernel
theorem d_Texts_letterOf_10 : decode c_Texts_letterOf 10 = .ok (.getstatic 67, 3) ∧ 10 + 3 = 13 := by decide +kernel
theorem d_Texts_letterOf_13 : decode c_Texts_letterOf 13 = .ok (.iload_n 1, 1) ∧ 13 + 1 = 14 := by decide +kernel
theorem d_Texts_letterOf_14 : decode c_Texts_letterOf 14 = .ok (.iaload, 1) ∧ 14 + 1 = 15 := by decide +kernel
theorem d_Texts_letterOf_15 : decode c_Texts_letterOf 15 = .ok (.iload_n 0, 1) ∧ 15 + 1 = 16 := by decide +kernel
theorem d_Texts_letterOf_16 : decode c_Texts_letterOf 16 = .ok (.if_icmp .ne 5, 3) ∧ 16 + 3 = 19 ∧ ((16 : Nat) : Int) + 5 = ((21 : Nat) : Int) := by decide +kernel
theorem d_Texts_letterOf_19 : decode c_Texts_letterOf 19 = .ok (.iload_n 1, 1) ∧ 19 + 1 = 20 := by decide +kernel
theorem d_Texts_letterOf_20 : decode c_Texts_letterOf 20 = .ok (.ireturn, 1) ∧ 20 + 1 = 21 := by decide +kernel
theorem d_Texts_letterOf_21 : decode c_Texts_letterOf 21 = .ok (.iinc 1 1, 3) ∧ 21 + 3 = 24 := by decide +kernel
theorem d_Texts_letterOf_24 : decode c_Texts_letterOf 24 = .ok (.goto (-22), 3) ∧ (24 : Int) + (-22) = (2 : Int) := by decide +kernel
theorem d_Texts_letterOf_27 : decode c_Texts_letterOf 27 = .ok (.bipush (-9), 2) ∧ 27 + 2 = 29 := by decide +kernel
theorem d_Texts_letterOf_29 : decode c_Texts_letterOf 29 = .ok (.ireturn, 1) ∧ 29 + 1 = 30 := by decide +kernel
set_option maxHeartbeats 4000000 in
theorem w_Texts_letterOf_L2 {Z : Sy} {Γ : Nat → List (Nat × Value) → List Value → St → Prop} {res : Int32} {x0 : Int32} {σ : St} (h : IsG YC Z R_Texts c_Texts_letterOf 2 1 (some .int) (some (.int res)) σ Γ) : ∀ (n : Nat) (x1 : Int32), Texts_letterOf_L2 x0 σ n x1 = some res → Γ 2 [(0, .int x0), (1, .int x1)] [] σ := by
  intro n
  induction n with
  | zero => intro x1 hf; exact absurd hf (by simp [Texts_letterOf_L2])
  | succ n ih =>
    intro x1 hf
    rw [Texts_letterOf_L2] at hf
    refine r_iload_n h d_Texts_letterOf_2 1 rfl rfl ?_
    refine r_gets h st_0 tm_728 d_Texts_letterOf_3 ?_
    refine r_tlen h st_0 kn_7 d_Texts_letterOf_6 ?_
    refine r_icmp_ge h d_Texts_letterOf_7 hf (fun hf => ?_) (fun hf => ?_)
    · refine r_bipush h d_Texts_letterOf_27 kb_m9 ?_
      exact r_ireturn h d_Texts_letterOf_29.1 (Option.some.inj hf) rfl
    · refine r_gets h st_0 tm_728 d_Texts_letterOf_10 ?_
      refine r_iload_n h d_Texts_letterOf_13 1 rfl rfl ?_
      refine r_tald h st_0 d_Texts_letterOf_14 hf (fun hf => ?_)
      refine r_iload_n h d_Texts_letterOf_15 0 rfl rfl ?_
      refine r_icmp_ne h d_Texts_letterOf_16 hf (fun hf => ?_) (fun hf => ?_)
      · refine r_iinc (ls' := [(1, .int (x1 + (1 : Int32))), (0, .int x0)]) h d_Texts_letterOf_21 1 rfl ki_1 (by decide) rfl ?_
        refine r_goto h d_Texts_letterOf_24 ?_
        refine r_sub h [1, 0] rfl ?_
        exact ih _ hf
      · refine r_iload_n h d_Texts_letterOf_19 1 rfl rfl ?_
        exact r_ireturn h d_Texts_letterOf_20.1 (Option.some.inj hf) rfl

set_option maxHeartbeats 4000000 in
theorem m_Texts_letterOf {Z : Sy} {σ : St} {res : Int32} {x0 : Int32} (hf : Texts_letterOf x0 σ = some res) : Ct YC Z y_Texts_letterOf c_Texts_letterOf 2 (some .int) 1 [.int x0] σ (some (.int res)) σ := by
  refine Ct.of pn_Texts (Nat.le_of_ble_eq_true rfl) rfl (fun Γ h => ?_)
  have h : IsG YC Z R_Texts c_Texts_letterOf 2 1 (some .int) (some (.int res)) σ Γ := h
  unfold Texts_letterOf at hf
  refine r_iconst h d_Texts_letterOf_0 ki_0 ?_
  refine r_istore_n (ls' := [(1, .int (0 : Int32)), (0, .int x0)]) h d_Texts_letterOf_1 rfl (by decide) rfl ?_
  refine r_sub h [1, 0] rfl ?_
  exact w_Texts_letterOf_L2 h _ _ hf

theorem d_Texts_read_0 : decode c_Texts_read 0 = .ok (.aload_n 0, 1) ∧ 0 + 1 = 1 := by decide +kernel
theorem d_Texts_read_1 : decode c_Texts_read 1 = .ok (.iconst 0, 1) ∧ 1 + 1 = 2 := by decide +kernel
theorem d_Texts_read_2 : decode c_Texts_read 2 = .ok (.putfield 36, 3) ∧ 2 + 3 = 5 := by decide +kernel
theorem d_Texts_read_5 : decode c_Texts_read 5 = .ok (.iconst 0, 1) ∧ 5 + 1 = 6 := by decide +kernel
theorem d_Texts_read_6 : decode c_Texts_read 6 = .ok (.istore 5, 2) ∧ 6 + 2 = 8 := by decide +kernel
theorem d_Texts_read_8 : decode c_Texts_read 8 = .ok (.iconst 1, 1) ∧ 8 + 1 = 9 := by decide +kernel
theorem d_Texts_read_9 : decode c_Texts_read 9 = .ok (.istore 6, 2) ∧ 9 + 2 = 11 := by decide +kernel
theorem d_Texts_read_11 : decode c_Texts_read 11 = .ok (.iload 6, 2) ∧ 11 + 2 = 13 := by decide +kernel
theorem d_Texts_read_13 : decode c_Texts_read 13 = .ok (.bipush 6, 2) ∧ 13 + 2 = 15 := by decide +kernel
theorem d_Texts_read_15 : decode c_Texts_read 15 = .ok (.if_icmp .gt 159, 3) ∧ 15 + 3 = 18 ∧ ((15 : Nat) : Int) + 159 = ((174 : Nat) : Int) := by decide +kernel
theorem d_Texts_read_18 : decode c_Texts_read 18 = .ok (.iload 5, 2) ∧ 18 + 2 = 20 := by decide +kernel
theorem d_Texts_read_20 : decode c_Texts_read 20 = .ok (.iload 4, 2) ∧ 20 + 2 = 22 := by decide +kernel
theorem d_Texts_read_22 : decode c_Texts_read 22 = .ok (.if_icmp .ge 18, 3) ∧ 22 + 3 = 25 ∧ ((22 : Nat) : Int) + 18 = ((40 : Nat) : Int) := by decide +kernel
theorem d_Texts_read_25 : decode c_Texts_read 25 = .ok (.aload_n 1, 1) ∧ 25 + 1 = 26 := by decide +kernel
theorem d_Texts_read_26 : decode c_Texts_read 26 = .ok (.iload_n 2, 1) ∧ 26 + 1 = 27 := by decide +kernel
theorem d_Texts_read_27 : decode c_Texts_read 27 = .ok (.iload_n 3, 1) ∧ 27 + 1 = 28 := by decide +kernel
theorem d_Texts_read_28 : decode c_Texts_read 28 = .ok (.iload 5, 2) ∧ 28 + 2 = 30 := by decide +kernel
theorem d_Texts_read_30 : decode c_Texts_read 30 = .ok (.iadd, 1) ∧ 30 + 1 = 31 := by decide +kernel
theorem d_Texts_read_31 : decode c_Texts_read 31 = .ok (.invokevirtual 40, 3) ∧ 31 + 3 = 34 := by decide +kernel
theorem d_Texts_read_34 : decode c_Texts_read 34 = .ok (.invokestatic 46, 3) ∧ 34 + 3 = 37 := by decide +kernel
theorem d_Texts_read_37 : decode c_Texts_read 37 = .ok (.goto 5, 3) ∧ (37 : Int) + 5 = (42 : Int) := by decide +kernel
theorem d_Texts_read_40 : decode c_Texts_read 40 = .ok (.bipush (-9), 2) ∧ 40 + 2 = 42 := by decide +kernel
theorem d_Texts_read_42 : decode c_Texts_read 42 = .ok (.istore 7, 2) ∧ 42 + 2 = 44 := by decide +kernel
theorem d_Texts_read_44 : decode c_Texts_read 44 = .ok (.iload 7, 2) ∧ 44 + 2 = 46 := by decide +kernel
theorem d_Texts_read_46 : decode c_Texts_read 46 = .ok (.bipush (-9), 2) ∧ 46 + 2 = 48 := by decide +kernel
theorem d_Texts_read_48 : decode c_Texts_read 48 = .ok (.if_icmp .ne 6, 3) ∧ 48 + 3 = 51 ∧ ((48 : Nat) : Int) + 6 = ((54 : Nat) : Int) := by decide +kernel
theorem d_Texts_read_51 : decode c_Texts_read 51 = .ok (.iload 5, 2) ∧ 51 + 2 = 53 := by decide +kernel
theorem d_Texts_read_53 : decode c_Texts_read 53 = .ok (.ireturn, 1) ∧ 53 + 1 = 54 := by decide +kernel
theorem d_Texts_read_54 : decode c_Texts_read 54 = .ok (.iinc 5 1, 3) ∧ 54 + 3 = 57 := by decide +kernel
theorem d_Texts_read_57 : decode c_Texts_read 57 = .ok (.aload_n 1, 1) ∧ 57 + 1 = 58 := by decide +kernel
theorem d_Texts_read_58 : decode c_Texts_read 58 = .ok (.iload_n 2, 1) ∧ 58 + 1 = 59 := by decide +kernel
theorem d_Texts_read_59 : decode c_Texts_read 59 = .ok (.iload_n 3, 1) ∧ 59 + 1 = 60 := by decide +kernel
theorem d_Texts_read_60 : decode c_Texts_read 60 = .ok (.iload 5, 2) ∧ 60 + 2 = 62 := by decide +kernel
theorem d_Texts_read_62 : decode c_Texts_read 62 = .ok (.iadd, 1) ∧ 62 + 1 = 63 := by decide +kernel
theorem d_Texts_read_63 : decode c_Texts_read 63 = .ok (.iload 4, 2) ∧ 63 + 2 = 65 := by decide +kernel
theorem d_Texts_read_65 : decode c_Texts_read 65 = .ok (.iload 5, 2) ∧ 65 + 2 = 67 := by decide +kernel
theorem d_Texts_read_67 : decode c_Texts_read 67 = .ok (.isub, 1) ∧ 67 + 1 = 68 := by decide +kernel
theorem d_Texts_read_68 : decode c_Texts_read 68 = .ok (.invokestatic 50, 3) ∧ 68 + 3 = 71 := by decide +kernel
theorem d_Texts_read_71 : decode c_Texts_read 71 = .ok (.istore 8, 2) ∧ 71 + 2 = 73 := by decide +kernel
theorem d_Texts_read_73 : decode c_Texts_read 73 = .ok (.aload_n 1, 1) ∧ 73 + 1 = 74 := by decide +kernel
theorem d_Texts_read_74 : decode c_Texts_read 74 = .ok (.iload_n 2, 1) ∧ 74 + 1 = 75 := by decide +kernel
theorem d_Texts_read_75 : decode c_Texts_read 75 = .ok (.iload_n 3, 1) ∧ 75 + 1 = 76 := by decide +kernel
theorem d_Texts_read_76 : decode c_Texts_read 76 = .ok (.iload 5, 2) ∧ 76 + 2 = 78 := by decide +kernel
theorem d_Texts_read_78 : decode c_Texts_read 78 = .ok (.iadd, 1) ∧ 78 + 1 = 79 := by decide +kernel
theorem d_Texts_read_79 : decode c_Texts_read 79 = .ok (.iload 8, 2) ∧ 79 + 2 = 81 := by decide +kernel
theorem d_Texts_read_81 : decode c_Texts_read 81 = .ok (.invokestatic 54, 3) ∧ 81 + 3 = 84 := by decide +kernel
theorem d_Texts_read_84 : decode c_Texts_read 84 = .ok (.istore 9, 2) ∧ 84 + 2 = 86 := by decide +kernel
theorem d_Texts_read_86 : decode c_Texts_read 86 = .ok (.iload 8, 2) ∧ 86 + 2 = 88 := by decide +kernel
theorem d_Texts_read_88 : decode c_Texts_read 88 = .ok (.ifCond .eq 25, 3) ∧ 88 + 3 = 91 ∧ ((88 : Nat) : Int) + 25 = ((113 : Nat) : Int) := by decide +kernel
theorem d_Texts_read_91 : decode c_Texts_read 91 = .ok (.iload 9, 2) ∧ 91 + 2 = 93 := by decide +kernel
theorem d_Texts_read_93 : decode c_Texts_read 93 = .ok (.getstatic 57, 3) ∧ 93 + 3 = 96 := by decide +kernel
theorem d_Texts_read_96 : decode c_Texts_read 96 = .ok (.iload 7, 2) ∧ 96 + 2 = 98 := by decide +kernel
theorem d_Texts_read_98 : decode c_Texts_read 98 = .ok (.iaload, 1) ∧ 98 + 1 = 99 := by decide +kernel
theorem d_Texts_read_99 : decode c_Texts_read 99 = .ok (.if_icmp .lt 14, 3) ∧ 99 + 3 = 102 ∧ ((99 : Nat) : Int) + 14 = ((113 : Nat) : Int) := by decide +kernel
theorem d_Texts_read_102 : decode c_Texts_read 102 = .ok (.iload 9, 2) ∧ 102 + 2 = 104 := by decide +kernel
theorem d_Texts_read_104 : decode c_Texts_read 104 = .ok (.getstatic 60, 3) ∧ 104 + 3 = 107 := by decide +kernel
theorem d_Texts_read_107 : decode c_Texts_read 107 = .ok (.iload 7, 2) ∧ 107 + 2 = 109 := by decide +kernel
theorem d_Texts_read_109 : decode c_Texts_read 109 = .ok (.iaload, 1) ∧ 109 + 1 = 110 := by decide +kernel
theorem d_Texts_read_110 : decode c_Texts_read 110 = .ok (.if_icmp .le 6, 3) ∧ 110 + 3 = 113 ∧ ((110 : Nat) : Int) + 6 = ((116 : Nat) : Int) := by decide +kernel
theorem d_Texts_read_113 : decode c_Texts_read 113 = .ok (.iload 5, 2) ∧ 113 + 2 = 115 := by decide +kernel
theorem d_Texts_read_115 : decode c_Texts_read 115 = .ok (.ireturn, 1) ∧ 115 + 1 = 116 := by decide +kernel
theorem d_Texts_read_116 : decode c_Texts_read 116 = .ok (.aload_n 0, 1) ∧ 116 + 1 = 117 := by decide +kernel
theorem d_Texts_read_117 : decode c_Texts_read 117 = .ok (.iload 7, 2) ∧ 117 + 2 = 119 := by decide +kernel
theorem d_Texts_read_119 : decode c_Texts_read 119 = .ok (.iload 9, 2) ∧ 119 + 2 = 121 := by decide +kernel
theorem d_Texts_read_121 : decode c_Texts_read 121 = .ok (.invokevirtual 63, 3) ∧ 121 + 3 = 124 := by decide +kernel
theorem d_Texts_read_124 : decode c_Texts_read 124 = .ok (.iload 5, 2) ∧ 124 + 2 = 126 := by decide +kernel
theorem d_Texts_read_126 : decode c_Texts_read 126 = .ok (.iload 8, 2) ∧ 126 + 2 = 128 := by decide +kernel
theorem d_Texts_read_128 : decode c_Texts_read 128 = .ok (.iadd, 1) ∧ 128 + 1 = 129 := by decide +kernel
theorem d_Texts_read_129 : decode c_Texts_read 129 = .ok (.istore 5, 2) ∧ 129 + 2 = 131 := by decide +kernel
theorem d_Texts_read_131 : decode c_Texts_read 131 = .ok (.iload 5, 2) ∧ 131 + 2 = 133 := by decide +kernel
theorem d_Texts_read_133 : decode c_Texts_read 133 = .ok (.iload 4, 2) ∧ 133 + 2 = 135 := by decide +kernel
theorem d_Texts_read_135 : decode c_Texts_read 135 = .ok (.if_icmp .lt 6, 3) ∧ 135 + 3 = 138 ∧ ((135 : Nat) : Int) + 6 = ((141 : Nat) : Int) := by decide +kernel
theorem d_Texts_read_138 : decode c_Texts_read 138 = .ok (.bipush (-9), 2) ∧ 138 + 2 = 140 := by decide +kernel
theorem d_Texts_read_140 : decode c_Texts_read 140 = .ok (.ireturn, 1) ∧ 140 + 1 = 141 := by decide +kernel
theorem d_Texts_read_141 : decode c_Texts_read 141 = .ok (.aload_n 1, 1) ∧ 141 + 1 = 142 := by decide +kernel
theorem d_Texts_read_142 : decode c_Texts_read 142 = .ok (.iload_n 2, 1) ∧ 142 + 1 = 143 := by decide +kernel
theorem d_Texts_read_143 : decode c_Texts_read 143 = .ok (.iload_n 3, 1) ∧ 143 + 1 = 144 := by decide +kernel
theorem d_Texts_read_144 : decode c_Texts_read 144 = .ok (.iload 5, 2) ∧ 144 + 2 = 146 := by decide +kernel
theorem d_Texts_read_146 : decode c_Texts_read 146 = .ok (.iadd, 1) ∧ 146 + 1 = 147 := by decide +kernel
theorem d_Texts_read_147 : decode c_Texts_read 147 = .ok (.invokevirtual 40, 3) ∧ 147 + 3 = 150 := by decide +kernel
theorem d_Texts_read_150 : decode c_Texts_read 150 = .ok (.bipush 59, 2) ∧ 150 + 2 = 152 := by decide +kernel
theorem d_Texts_read_152 : decode c_Texts_read 152 = .ok (.if_icmp .ne 10, 3) ∧ 152 + 3 = 155 ∧ ((152 : Nat) : Int) + 10 = ((162 : Nat) : Int) := by decide +kernel
theorem d_Texts_read_155 : decode c_Texts_read 155 = .ok (.iload 6, 2) ∧ 155 + 2 = 157 := by decide +kernel
theorem d_Texts_read_157 : decode c_Texts_read 157 = .ok (.bipush 6, 2) ∧ 157 + 2 = 159 := by decide +kernel
theorem d_Texts_read_159 : decode c_Texts_read 159 = .ok (.if_icmp .ne 6, 3) ∧ 159 + 3 = 162 ∧ ((159 : Nat) : Int) + 6 = ((165 : Nat) : Int) := by decide +kernel
theorem d_Texts_read_162 : decode c_Texts_read 162 = .ok (.iload 5, 2) ∧ 162 + 2 = 164 := by decide +kernel
theorem d_Texts_read_164 : decode c_Texts_read 164 = .ok (.ireturn, 1) ∧ 164 + 1 = 165 := by decide +kernel
theorem d_Texts_read_165 : decode c_Texts_read 165 = .ok (.iinc 5 1, 3) ∧ 165 + 3 = 168 := by decide +kernel
theorem d_Texts_read_168 : decode c_Texts_read 168 = .ok (.iinc 6 1, 3) ∧ 168 + 3 = 171 := by decide +kernel
theorem d_Texts_read_171 : decode c_Texts_read 171 = .ok (.goto (-160), 3) ∧ (171 : Int) + (-160) = (11 : Int) := by decide +kernel
theorem d_Texts_read_174 : decode c_Texts_read 174 = .ok (.iload 5, 2) ∧ 174 + 2 = 176 := by decide +kernel
theorem d_Texts_read_176 : decode c_Texts_read 176 = .ok (.ireturn, 1) ∧ 176 + 1 = 177 := by decide +kernel
set_option maxHeartbeats 4000000 in
theorem w_Texts_read_L11 {Z : Sy} {Γ : Nat → List (Nat × Value) → List Value → St → Prop} {res : (Int32 × St)} {x2 : Int32} {x3 : Int32} {x4 : Int32} (h : IsG YC Z R_Texts c_Texts_read 10 3 (some .int) (some (.int res.1)) res.2 Γ) : ∀ (n : Nat) (x5 : Int32) (x6 : Int32) (σ : St), Texts_read_L11 x2 x3 x4 n x5 x6 σ = some res → Γ 11 [(0, .ref (ya Z 40)), (1, .ref (ya Z 74)), (2, .int x2), (3, .int x3), (4, .int x4), (5, .int x5), (6, .int x6)] [] σ := by
  intro n
  induction n with
  | zero => intro x5 x6 σ hf; exact absurd hf (by simp [Texts_read_L11])
  | succ n ih =>
    intro x5 x6 σ hf
    rw [Texts_read_L11] at hf
    refine r_iload h d_Texts_read_11 6 rfl ?_
    refine r_bipush h d_Texts_read_13 kb_6 ?_
    refine r_icmp_gt h d_Texts_read_15 hf (fun hf => ?_) (fun hf => ?_)
    · refine r_iload h d_Texts_read_174 5 rfl ?_
      exact r_ireturn h d_Texts_read_176.1 (q_p1 hf) (q_p2 hf)
    · refine r_iload h d_Texts_read_18 5 rfl ?_
      refine r_iload h d_Texts_read_20 4 rfl ?_
      refine r_icmp_ge h d_Texts_read_22 hf (fun hf => ?_) (fun hf => ?_)
      · refine r_bipush h d_Texts_read_40 kb_m9 ?_
        refine r_istore (ls' := [(7, .int (-9 : Int32)), (0, .ref (ya Z 40)), (1, .ref (ya Z 74)), (2, .int x2), (3, .int x3), (4, .int x4), (5, .int x5), (6, .int x6)]) h d_Texts_read_42 (by decide) rfl ?_
        refine r_iload h d_Texts_read_44 0 rfl ?_
        refine r_bipush h d_Texts_read_46 kb_m9 ?_
        refine r_icmp_ne h d_Texts_read_48 hf (fun hf => ?_) (fun hf => ?_)
        · refine r_iinc (ls' := [(5, .int (x5 + (1 : Int32))), (7, .int (-9 : Int32)), (0, .ref (ya Z 40)), (1, .ref (ya Z 74)), (2, .int x2), (3, .int x3), (4, .int x4), (6, .int x6)]) h d_Texts_read_54 6 rfl ki_1 (by decide) rfl ?_
          refine r_aload_n h d_Texts_read_57 3 rfl rfl ?_
          refine r_iload_n h d_Texts_read_58 4 rfl rfl ?_
          refine r_iload_n h d_Texts_read_59 5 rfl rfl ?_
          refine r_iload h d_Texts_read_60 0 rfl ?_
          refine r_iadd h d_Texts_read_62 ?_
          refine r_iload h d_Texts_read_63 6 rfl ?_
          refine r_iload h d_Texts_read_65 0 rfl ?_
          refine r_isub h d_Texts_read_67 ?_
          obtain ⟨r68, e68, hf⟩ := q_bind hf
          refine r_callS (As := [.ref (ya Z 74), .int x2, .int (x3 + (x5 + (1 : Int32))), .int (x4 - (x5 + (1 : Int32)))]) (rest := []) h lk_Texts_50 sk_Texts_50 d_Texts_read_68 (by decide) rfl rfl (Nat.le_of_ble_eq_true rfl) (m_Texts_digitsFrom e68) ?_
          refine r_istore (ls' := [(8, .int r68), (5, .int (x5 + (1 : Int32))), (7, .int (-9 : Int32)), (0, .ref (ya Z 40)), (1, .ref (ya Z 74)), (2, .int x2), (3, .int x3), (4, .int x4), (6, .int x6)]) h d_Texts_read_71 (by decide) rfl ?_
          refine r_aload_n h d_Texts_read_73 4 rfl rfl ?_
          refine r_iload_n h d_Texts_read_74 5 rfl rfl ?_
          refine r_iload_n h d_Texts_read_75 6 rfl rfl ?_
          refine r_iload h d_Texts_read_76 1 rfl ?_
          refine r_iadd h d_Texts_read_78 ?_
          refine r_iload h d_Texts_read_79 0 rfl ?_
          obtain ⟨r81, e81, hf⟩ := q_bind hf
          refine r_callS (As := [.ref (ya Z 74), .int x2, .int (x3 + (x5 + (1 : Int32))), .int r68]) (rest := []) h lk_Texts_54 sk_Texts_54 d_Texts_read_81 (by decide) rfl rfl (Nat.le_of_ble_eq_true rfl) (m_Texts_numberOf e81) ?_
          refine r_istore (ls' := [(9, .int r81), (8, .int r68), (5, .int (x5 + (1 : Int32))), (7, .int (-9 : Int32)), (0, .ref (ya Z 40)), (1, .ref (ya Z 74)), (2, .int x2), (3, .int x3), (4, .int x4), (6, .int x6)]) h d_Texts_read_84 (by decide) rfl ?_
          refine r_iload h d_Texts_read_86 1 rfl ?_
          refine r_if_eq h d_Texts_read_88 hf (fun hf => ?_) (fun hf => ?_)
          · refine r_iload h d_Texts_read_113 2 rfl ?_
            exact r_ireturn h d_Texts_read_115.1 (q_p1 hf) (q_p2 hf)
          · refine r_iload h d_Texts_read_91 0 rfl ?_
            refine r_gets h st_1 tm_739 d_Texts_read_93 ?_
            refine r_iload h d_Texts_read_96 3 rfl ?_
            refine r_tald h st_1 d_Texts_read_98 hf (fun hf => ?_)
            refine r_icmp_lt h d_Texts_read_99 hf (fun hf => ?_) (fun hf => ?_)
            · refine r_iload h d_Texts_read_113 2 rfl ?_
              exact r_ireturn h d_Texts_read_115.1 (q_p1 hf) (q_p2 hf)
            · refine r_iload h d_Texts_read_102 0 rfl ?_
              refine r_gets h st_2 tm_741 d_Texts_read_104 ?_
              refine r_iload h d_Texts_read_107 3 rfl ?_
              refine r_tald h st_2 d_Texts_read_109 hf (fun hf => ?_)
              refine r_icmp_le h d_Texts_read_110 hf (fun hf => ?_) (fun hf => ?_)
              · refine r_aload_n h d_Texts_read_116 4 rfl rfl ?_
                refine r_iload h d_Texts_read_117 3 rfl ?_
                refine r_iload h d_Texts_read_119 0 rfl ?_
                obtain ⟨q121, e121, hf⟩ := q_bind hf
                refine r_callV (As := [.int (-9 : Int32), .int r81]) (rest := []) h sh_YC_40 lk_Texts_63 vk_Texts_63 d_Texts_read_121 (by decide) rfl rfl (Nat.le_of_ble_eq_true rfl) (m_Texts_addRead e121) ?_
                refine r_iload h d_Texts_read_124 2 rfl ?_
                refine r_iload h d_Texts_read_126 1 rfl ?_
                refine r_iadd h d_Texts_read_128 ?_
                refine r_istore (ls' := [(5, .int ((x5 + (1 : Int32)) + r68)), (9, .int r81), (8, .int r68), (7, .int (-9 : Int32)), (0, .ref (ya Z 40)), (1, .ref (ya Z 74)), (2, .int x2), (3, .int x3), (4, .int x4), (6, .int x6)]) h d_Texts_read_129 (by decide) rfl ?_
                refine r_iload h d_Texts_read_131 0 rfl ?_
                refine r_iload h d_Texts_read_133 8 rfl ?_
                refine r_icmp_lt h d_Texts_read_135 hf (fun hf => ?_) (fun hf => ?_)
                · refine r_aload_n h d_Texts_read_141 5 rfl rfl ?_
                  refine r_iload_n h d_Texts_read_142 6 rfl rfl ?_
                  refine r_iload_n h d_Texts_read_143 7 rfl rfl ?_
                  refine r_iload h d_Texts_read_144 0 rfl ?_
                  refine r_iadd h d_Texts_read_146 ?_
                  obtain ⟨r147, e147, hf⟩ := q_bind hf
                  refine r_callV (As := [.int x2, .int (x3 + ((x5 + (1 : Int32)) + r68))]) (rest := []) h sh_YC_74 lk_Texts_40 vk_Texts_40 d_Texts_read_147 (by decide) rfl rfl (Nat.le_of_ble_eq_true rfl) (m_Sheets_valueAt e147) ?_
                  refine r_bipush h d_Texts_read_150 kb_59 ?_
                  refine r_icmp_ne h d_Texts_read_152 hf (fun hf => ?_) (fun hf => ?_)
                  · refine r_iload h d_Texts_read_162 0 rfl ?_
                    exact r_ireturn h d_Texts_read_164.1 (q_p1 hf) (q_p2 hf)
                  · refine r_iload h d_Texts_read_155 9 rfl ?_
                    refine r_bipush h d_Texts_read_157 kb_6 ?_
                    refine r_icmp_ne h d_Texts_read_159 hf (fun hf => ?_) (fun hf => ?_)
                    · refine r_iinc (ls' := [(5, .int (((x5 + (1 : Int32)) + r68) + (1 : Int32))), (9, .int r81), (8, .int r68), (7, .int (-9 : Int32)), (0, .ref (ya Z 40)), (1, .ref (ya Z 74)), (2, .int x2), (3, .int x3), (4, .int x4), (6, .int x6)]) h d_Texts_read_165 0 rfl ki_1 (by decide) rfl ?_
                      refine r_iinc (ls' := [(6, .int (x6 + (1 : Int32))), (5, .int (((x5 + (1 : Int32)) + r68) + (1 : Int32))), (9, .int r81), (8, .int r68), (7, .int (-9 : Int32)), (0, .ref (ya Z 40)), (1, .ref (ya Z 74)), (2, .int x2), (3, .int x3), (4, .int x4)]) h d_Texts_read_168 9 rfl ki_1 (by decide) rfl ?_
                      refine r_goto h d_Texts_read_171 ?_
                      refine r_sub h [5, 6, 7, 8, 9, 1, 0] rfl ?_
                      exact ih _ _ _ hf
                    · refine r_iload h d_Texts_read_162 0 rfl ?_
                      exact r_ireturn h d_Texts_read_164.1 (q_p1 hf) (q_p2 hf)
                · refine r_bipush h d_Texts_read_138 kb_m9 ?_
                  exact r_ireturn h d_Texts_read_140.1 (q_p1 hf) (q_p2 hf)
              · refine r_iload h d_Texts_read_113 2 rfl ?_
                exact r_ireturn h d_Texts_read_115.1 (q_p1 hf) (q_p2 hf)
        · refine r_iload h d_Texts_read_51 6 rfl ?_
          exact r_ireturn h d_Texts_read_53.1 (q_p1 hf) (q_p2 hf)
      · refine r_aload_n h d_Texts_read_25 1 rfl rfl ?_
        refine r_iload_n h d_Texts_read_26 2 rfl rfl ?_
        refine r_iload_n h d_Texts_read_27 3 rfl rfl ?_
        refine r_iload h d_Texts_read_28 5 rfl ?_
        refine r_iadd h d_Texts_read_30 ?_
        obtain ⟨r31, e31, hf⟩ := q_bind hf
        refine r_callV (As := [.int x2, .int (x3 + x5)]) (rest := []) h sh_YC_74 lk_Texts_40 vk_Texts_40 d_Texts_read_31 (by decide) rfl rfl (Nat.le_of_ble_eq_true rfl) (m_Sheets_valueAt e31) ?_
        obtain ⟨r34, e34, hf⟩ := q_bind hf
        refine r_callS (As := [.int r31]) (rest := []) h lk_Texts_46 sk_Texts_46 d_Texts_read_34 (by decide) rfl rfl (Nat.le_of_ble_eq_true rfl) (m_Texts_letterOf e34) ?_
        refine r_goto h d_Texts_read_37 ?_
        refine r_istore (ls' := [(7, .int r34), (0, .ref (ya Z 40)), (1, .ref (ya Z 74)), (2, .int x2), (3, .int x3), (4, .int x4), (5, .int x5), (6, .int x6)]) h d_Texts_read_42 (by decide) rfl ?_
        refine r_iload h d_Texts_read_44 0 rfl ?_
        refine r_bipush h d_Texts_read_46 kb_m9 ?_
        refine r_icmp_ne h d_Texts_read_48 hf (fun hf => ?_) (fun hf => ?_)
        · refine r_iinc (ls' := [(5, .int (x5 + (1 : Int32))), (7, .int r34), (0, .ref (ya Z 40)), (1, .ref (ya Z 74)), (2, .int x2), (3, .int x3), (4, .int x4), (6, .int x6)]) h d_Texts_read_54 6 rfl ki_1 (by decide) rfl ?_
          refine r_aload_n h d_Texts_read_57 3 rfl rfl ?_
          refine r_iload_n h d_Texts_read_58 4 rfl rfl ?_
          refine r_iload_n h d_Texts_read_59 5 rfl rfl ?_
          refine r_iload h d_Texts_read_60 0 rfl ?_
          refine r_iadd h d_Texts_read_62 ?_
          refine r_iload h d_Texts_read_63 6 rfl ?_
          refine r_iload h d_Texts_read_65 0 rfl ?_
          refine r_isub h d_Texts_read_67 ?_
          obtain ⟨r68, e68, hf⟩ := q_bind hf
          refine r_callS (As := [.ref (ya Z 74), .int x2, .int (x3 + (x5 + (1 : Int32))), .int (x4 - (x5 + (1 : Int32)))]) (rest := []) h lk_Texts_50 sk_Texts_50 d_Texts_read_68 (by decide) rfl rfl (Nat.le_of_ble_eq_true rfl) (m_Texts_digitsFrom e68) ?_
          refine r_istore (ls' := [(8, .int r68), (5, .int (x5 + (1 : Int32))), (7, .int r34), (0, .ref (ya Z 40)), (1, .ref (ya Z 74)), (2, .int x2), (3, .int x3), (4, .int x4), (6, .int x6)]) h d_Texts_read_71 (by decide) rfl ?_
          refine r_aload_n h d_Texts_read_73 4 rfl rfl ?_
          refine r_iload_n h d_Texts_read_74 5 rfl rfl ?_
          refine r_iload_n h d_Texts_read_75 6 rfl rfl ?_
          refine r_iload h d_Texts_read_76 1 rfl ?_
          refine r_iadd h d_Texts_read_78 ?_
          refine r_iload h d_Texts_read_79 0 rfl ?_
          obtain ⟨r81, e81, hf⟩ := q_bind hf
          refine r_callS (As := [.ref (ya Z 74), .int x2, .int (x3 + (x5 + (1 : Int32))), .int r68]) (rest := []) h lk_Texts_54 sk_Texts_54 d_Texts_read_81 (by decide) rfl rfl (Nat.le_of_ble_eq_true rfl) (m_Texts_numberOf e81) ?_
          refine r_istore (ls' := [(9, .int r81), (8, .int r68), (5, .int (x5 + (1 : Int32))), (7, .int r34), (0, .ref (ya Z 40)), (1, .ref (ya Z 74)), (2, .int x2), (3, .int x3), (4, .int x4), (6, .int x6)]) h d_Texts_read_84 (by decide) rfl ?_
          refine r_iload h d_Texts_read_86 1 rfl ?_
          refine r_if_eq h d_Texts_read_88 hf (fun hf => ?_) (fun hf => ?_)
          · refine r_iload h d_Texts_read_113 2 rfl ?_
            exact r_ireturn h d_Texts_read_115.1 (q_p1 hf) (q_p2 hf)
          · refine r_iload h d_Texts_read_91 0 rfl ?_
            refine r_gets h st_1 tm_739 d_Texts_read_93 ?_
            refine r_iload h d_Texts_read_96 3 rfl ?_
            refine r_tald h st_1 d_Texts_read_98 hf (fun hf => ?_)
            refine r_icmp_lt h d_Texts_read_99 hf (fun hf => ?_) (fun hf => ?_)
            · refine r_iload h d_Texts_read_113 2 rfl ?_
              exact r_ireturn h d_Texts_read_115.1 (q_p1 hf) (q_p2 hf)
            · refine r_iload h d_Texts_read_102 0 rfl ?_
              refine r_gets h st_2 tm_741 d_Texts_read_104 ?_
              refine r_iload h d_Texts_read_107 3 rfl ?_
              refine r_tald h st_2 d_Texts_read_109 hf (fun hf => ?_)
              refine r_icmp_le h d_Texts_read_110 hf (fun hf => ?_) (fun hf => ?_)
              · refine r_aload_n h d_Texts_read_116 4 rfl rfl ?_
                refine r_iload h d_Texts_read_117 3 rfl ?_
                refine r_iload h d_Texts_read_119 0 rfl ?_
                obtain ⟨q121, e121, hf⟩ := q_bind hf
                refine r_callV (As := [.int r34, .int r81]) (rest := []) h sh_YC_40 lk_Texts_63 vk_Texts_63 d_Texts_read_121 (by decide) rfl rfl (Nat.le_of_ble_eq_true rfl) (m_Texts_addRead e121) ?_
                refine r_iload h d_Texts_read_124 2 rfl ?_
                refine r_iload h d_Texts_read_126 1 rfl ?_
                refine r_iadd h d_Texts_read_128 ?_
                refine r_istore (ls' := [(5, .int ((x5 + (1 : Int32)) + r68)), (9, .int r81), (8, .int r68), (7, .int r34), (0, .ref (ya Z 40)), (1, .ref (ya Z 74)), (2, .int x2), (3, .int x3), (4, .int x4), (6, .int x6)]) h d_Texts_read_129 (by decide) rfl ?_
                refine r_iload h d_Texts_read_131 0 rfl ?_
                refine r_iload h d_Texts_read_133 8 rfl ?_
                refine r_icmp_lt h d_Texts_read_135 hf (fun hf => ?_) (fun hf => ?_)
                · refine r_aload_n h d_Texts_read_141 5 rfl rfl ?_
                  refine r_iload_n h d_Texts_read_142 6 rfl rfl ?_
                  refine r_iload_n h d_Texts_read_143 7 rfl rfl ?_
                  refine r_iload h d_Texts_read_144 0 rfl ?_
                  refine r_iadd h d_Texts_read_146 ?_
                  obtain ⟨r147, e147, hf⟩ := q_bind hf
                  refine r_callV (As := [.int x2, .int (x3 + ((x5 + (1 : Int32)) + r68))]) (rest := []) h sh_YC_74 lk_Texts_40 vk_Texts_40 d_Texts_read_147 (by decide) rfl rfl (Nat.le_of_ble_eq_true rfl) (m_Sheets_valueAt e147) ?_
                  refine r_bipush h d_Texts_read_150 kb_59 ?_
                  refine r_icmp_ne h d_Texts_read_152 hf (fun hf => ?_) (fun hf => ?_)
                  · refine r_iload h d_Texts_read_162 0 rfl ?_
                    exact r_ireturn h d_Texts_read_164.1 (q_p1 hf) (q_p2 hf)
                  · refine r_iload h d_Texts_read_155 9 rfl ?_
                    refine r_bipush h d_Texts_read_157 kb_6 ?_
                    refine r_icmp_ne h d_Texts_read_159 hf (fun hf => ?_) (fun hf => ?_)
                    · refine r_iinc (ls' := [(5, .int (((x5 + (1 : Int32)) + r68) + (1 : Int32))), (9, .int r81), (8, .int r68), (7, .int r34), (0, .ref (ya Z 40)), (1, .ref (ya Z 74)), (2, .int x2), (3, .int x3), (4, .int x4), (6, .int x6)]) h d_Texts_read_165 0 rfl ki_1 (by decide) rfl ?_
                      refine r_iinc (ls' := [(6, .int (x6 + (1 : Int32))), (5, .int (((x5 + (1 : Int32)) + r68) + (1 : Int32))), (9, .int r81), (8, .int r68), (7, .int r34), (0, .ref (ya Z 40)), (1, .ref (ya Z 74)), (2, .int x2), (3, .int x3), (4, .int x4)]) h d_Texts_read_168 9 rfl ki_1 (by decide) rfl ?_
                      refine r_goto h d_Texts_read_171 ?_
                      refine r_sub h [5, 6, 7, 8, 9, 1, 0] rfl ?_
                      exact ih _ _ _ hf
                    · refine r_iload h d_Texts_read_162 0 rfl ?_
                      exact r_ireturn h d_Texts_read_164.1 (q_p1 hf) (q_p2 hf)
                · refine r_bipush h d_Texts_read_138 kb_m9 ?_
                  exact r_ireturn h d_Texts_read_140.1 (q_p1 hf) (q_p2 hf)
              · refine r_iload h d_Texts_read_113 2 rfl ?_
                exact r_ireturn h d_Texts_read_115.1 (q_p1 hf) (q_p2 hf)
        · refine r_iload h d_Texts_read_51 6 rfl ?_
          exact r_ireturn h d_Texts_read_53.1 (q_p1 hf) (q_p2 hf)

set_option maxHeartbeats 4000000 in
theorem m_Texts_read {Z : Sy} {σ : St} {res : (Int32 × St)} {x2 : Int32} {x3 : Int32} {x4 : Int32} (hf : Texts_read x2 x3 x4 σ = some res) : Ct YC Z y_Texts_read c_Texts_read 10 (some .int) 3 [.ref (ya Z 40), .ref (ya Z 74), .int x2, .int x3, .int x4] σ (some (.int res.1)) res.2 := by
  refine Ct.of pn_Texts (Nat.le_of_ble_eq_true rfl) rfl (fun Γ h => ?_)
  have h : IsG YC Z R_Texts c_Texts_read 10 3 (some .int) (some (.int res.1)) res.2 Γ := h
  unfold Texts_read at hf
  refine r_aload_n h d_Texts_read_0 0 rfl rfl ?_
  refine r_iconst h d_Texts_read_1 ki_0 ?_
  refine r_putI h fd_YC_40_9 cf_Texts fl_Texts_36 ⟨rfl, rfl⟩ d_Texts_read_2 ?_
  refine r_iconst h d_Texts_read_5 ki_0 ?_
  refine r_istore (ls' := [(5, .int (0 : Int32)), (0, .ref (ya Z 40)), (1, .ref (ya Z 74)), (2, .int x2), (3, .int x3), (4, .int x4)]) h d_Texts_read_6 (by decide) rfl ?_
  refine r_iconst h d_Texts_read_8 ki_1 ?_
  refine r_istore (ls' := [(6, .int (1 : Int32)), (5, .int (0 : Int32)), (0, .ref (ya Z 40)), (1, .ref (ya Z 74)), (2, .int x2), (3, .int x3), (4, .int x4)]) h d_Texts_read_9 (by decide) rfl ?_
  refine r_sub h [2, 3, 4, 5, 6, 1, 0] rfl ?_
  exact w_Texts_read_L11 h _ _ _ _ hf

