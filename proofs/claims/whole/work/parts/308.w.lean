theorem d_M_fall_0 : decode c_M_fall 0 = .ok (.iconst 0, 1) ∧ 0 + 1 = 1 := by decide +kernel
theorem d_M_fall_1 : decode c_M_fall 1 = .ok (.istore_n 1, 1) ∧ 1 + 1 = 2 := by decide +kernel
theorem d_M_fall_2 : decode c_M_fall 2 = .ok (.iload_n 1, 1) ∧ 2 + 1 = 3 := by decide +kernel
theorem d_M_fall_3 : decode c_M_fall 3 = .ok (.bipush 100, 2) ∧ 3 + 2 = 5 := by decide +kernel
theorem d_M_fall_5 : decode c_M_fall 5 = .ok (.if_icmp .ge 21, 3) ∧ 5 + 3 = 8 ∧ ((5 : Nat) : Int) + 21 = ((26 : Nat) : Int) := by decide +kernel
theorem d_M_fall_8 : decode c_M_fall 8 = .ok (.aload_n 0, 1) ∧ 8 + 1 = 9 := by decide +kernel
theorem d_M_fall_9 : decode c_M_fall 9 = .ok (.getfield 146, 3) ∧ 9 + 3 = 12 := by decide +kernel
theorem d_M_fall_12 : decode c_M_fall 12 = .ok (.iload_n 1, 1) ∧ 12 + 1 = 13 := by decide +kernel
theorem d_M_fall_13 : decode c_M_fall 13 = .ok (.aload_n 0, 1) ∧ 13 + 1 = 14 := by decide +kernel
theorem d_M_fall_14 : decode c_M_fall 14 = .ok (.getfield 134, 3) ∧ 14 + 3 = 17 := by decide +kernel
theorem d_M_fall_17 : decode c_M_fall 17 = .ok (.iload_n 1, 1) ∧ 17 + 1 = 18 := by decide +kernel
theorem d_M_fall_18 : decode c_M_fall 18 = .ok (.iaload, 1) ∧ 18 + 1 = 19 := by decide +kernel
theorem d_M_fall_19 : decode c_M_fall 19 = .ok (.iastore, 1) ∧ 19 + 1 = 20 := by decide +kernel
theorem d_M_fall_20 : decode c_M_fall 20 = .ok (.iinc 1 1, 3) ∧ 20 + 3 = 23 := by decide +kernel
theorem d_M_fall_23 : decode c_M_fall 23 = .ok (.goto (-21), 3) ∧ (23 : Int) + (-21) = (2 : Int) := by decide +kernel
theorem d_M_fall_26 : decode c_M_fall 26 = .ok (.iconst 1, 1) ∧ 26 + 1 = 27 := by decide +kernel
theorem d_M_fall_27 : decode c_M_fall 27 = .ok (.istore_n 1, 1) ∧ 27 + 1 = 28 := by decide +kernel
theorem d_M_fall_28 : decode c_M_fall 28 = .ok (.iconst 0, 1) ∧ 28 + 1 = 29 := by decide +kernel
theorem d_M_fall_29 : decode c_M_fall 29 = .ok (.istore_n 2, 1) ∧ 29 + 1 = 30 := by decide +kernel
theorem d_M_fall_30 : decode c_M_fall 30 = .ok (.iload_n 2, 1) ∧ 30 + 1 = 31 := by decide +kernel
theorem d_M_fall_31 : decode c_M_fall 31 = .ok (.bipush 60, 2) ∧ 31 + 2 = 33 := by decide +kernel
theorem d_M_fall_33 : decode c_M_fall 33 = .ok (.if_icmp .ge 85, 3) ∧ 33 + 3 = 36 ∧ ((33 : Nat) : Int) + 85 = ((118 : Nat) : Int) := by decide +kernel
theorem d_M_fall_36 : decode c_M_fall 36 = .ok (.iload_n 1, 1) ∧ 36 + 1 = 37 := by decide +kernel
theorem d_M_fall_37 : decode c_M_fall 37 = .ok (.ifCond .eq 81, 3) ∧ 37 + 3 = 40 ∧ ((37 : Nat) : Int) + 81 = ((118 : Nat) : Int) := by decide +kernel
theorem d_M_fall_40 : decode c_M_fall 40 = .ok (.iconst 0, 1) ∧ 40 + 1 = 41 := by decide +kernel
theorem d_M_fall_41 : decode c_M_fall 41 = .ok (.istore_n 3, 1) ∧ 41 + 1 = 42 := by decide +kernel
theorem d_M_fall_42 : decode c_M_fall 42 = .ok (.iload_n 3, 1) ∧ 42 + 1 = 43 := by decide +kernel
theorem d_M_fall_43 : decode c_M_fall 43 = .ok (.bipush 10, 2) ∧ 43 + 2 = 45 := by decide +kernel
theorem d_M_fall_45 : decode c_M_fall 45 = .ok (.if_icmp .ge 14, 3) ∧ 45 + 3 = 48 ∧ ((45 : Nat) : Int) + 14 = ((59 : Nat) : Int) := by decide +kernel
theorem d_M_fall_48 : decode c_M_fall 48 = .ok (.aload_n 0, 1) ∧ 48 + 1 = 49 := by decide +kernel
theorem d_M_fall_49 : decode c_M_fall 49 = .ok (.iload_n 3, 1) ∧ 49 + 1 = 50 := by decide +kernel
theorem d_M_fall_50 : decode c_M_fall 50 = .ok (.invokevirtual 422, 3) ∧ 50 + 3 = 53 := by decide +kernel
theorem d_M_fall_53 : decode c_M_fall 53 = .ok (.iinc 3 1, 3) ∧ 53 + 3 = 56 := by decide +kernel
theorem d_M_fall_56 : decode c_M_fall 56 = .ok (.goto (-14), 3) ∧ (56 : Int) + (-14) = (42 : Int) := by decide +kernel
theorem d_M_fall_59 : decode c_M_fall 59 = .ok (.iconst 0, 1) ∧ 59 + 1 = 60 := by decide +kernel
theorem d_M_fall_60 : decode c_M_fall 60 = .ok (.istore_n 1, 1) ∧ 60 + 1 = 61 := by decide +kernel
theorem d_M_fall_61 : decode c_M_fall 61 = .ok (.iconst 0, 1) ∧ 61 + 1 = 62 := by decide +kernel
theorem d_M_fall_62 : decode c_M_fall 62 = .ok (.istore_n 3, 1) ∧ 62 + 1 = 63 := by decide +kernel
theorem d_M_fall_63 : decode c_M_fall 63 = .ok (.iload_n 3, 1) ∧ 63 + 1 = 64 := by decide +kernel
theorem d_M_fall_64 : decode c_M_fall 64 = .ok (.bipush 100, 2) ∧ 64 + 2 = 66 := by decide +kernel
theorem d_M_fall_66 : decode c_M_fall 66 = .ok (.if_icmp .ge 46, 3) ∧ 66 + 3 = 69 ∧ ((66 : Nat) : Int) + 46 = ((112 : Nat) : Int) := by decide +kernel
theorem d_M_fall_69 : decode c_M_fall 69 = .ok (.iload_n 1, 1) ∧ 69 + 1 = 70 := by decide +kernel
theorem d_M_fall_70 : decode c_M_fall 70 = .ok (.ifCond .ne 18, 3) ∧ 70 + 3 = 73 ∧ ((70 : Nat) : Int) + 18 = ((88 : Nat) : Int) := by decide +kernel
theorem d_M_fall_73 : decode c_M_fall 73 = .ok (.aload_n 0, 1) ∧ 73 + 1 = 74 := by decide +kernel
theorem d_M_fall_74 : decode c_M_fall 74 = .ok (.getfield 146, 3) ∧ 74 + 3 = 77 := by decide +kernel
theorem d_M_fall_77 : decode c_M_fall 77 = .ok (.iload_n 3, 1) ∧ 77 + 1 = 78 := by decide +kernel
theorem d_M_fall_78 : decode c_M_fall 78 = .ok (.iaload, 1) ∧ 78 + 1 = 79 := by decide +kernel
theorem d_M_fall_79 : decode c_M_fall 79 = .ok (.aload_n 0, 1) ∧ 79 + 1 = 80 := by decide +kernel
theorem d_M_fall_80 : decode c_M_fall 80 = .ok (.getfield 149, 3) ∧ 80 + 3 = 83 := by decide +kernel
theorem d_M_fall_83 : decode c_M_fall 83 = .ok (.iload_n 3, 1) ∧ 83 + 1 = 84 := by decide +kernel
theorem d_M_fall_84 : decode c_M_fall 84 = .ok (.iaload, 1) ∧ 84 + 1 = 85 := by decide +kernel
theorem d_M_fall_85 : decode c_M_fall 85 = .ok (.if_icmp .eq 7, 3) ∧ 85 + 3 = 88 ∧ ((85 : Nat) : Int) + 7 = ((92 : Nat) : Int) := by decide +kernel
theorem d_M_fall_88 : decode c_M_fall 88 = .ok (.iconst 1, 1) ∧ 88 + 1 = 89 := by decide +kernel
theorem d_M_fall_89 : decode c_M_fall 89 = .ok (.goto 4, 3) ∧ (89 : Int) + 4 = (93 : Int) := by decide +kernel
theorem d_M_fall_92 : decode c_M_fall 92 = .ok (.iconst 0, 1) ∧ 92 + 1 = 93 := by decide +kernel
theorem d_M_fall_93 : decode c_M_fall 93 = .ok (.istore_n 1, 1) ∧ 93 + 1 = 94 := by decide +kernel
theorem d_M_fall_94 : decode c_M_fall 94 = .ok (.aload_n 0, 1) ∧ 94 + 1 = 95 := by decide +kernel
theorem d_M_fall_95 : decode c_M_fall 95 = .ok (.getfield 146, 3) ∧ 95 + 3 = 98 := by decide +kernel
theorem d_M_fall_98 : decode c_M_fall 98 = .ok (.iload_n 3, 1) ∧ 98 + 1 = 99 := by decide +kernel
theorem d_M_fall_99 : decode c_M_fall 99 = .ok (.aload_n 0, 1) ∧ 99 + 1 = 100 := by decide +kernel
theorem d_M_fall_100 : decode c_M_fall 100 = .ok (.getfield 149, 3) ∧ 100 + 3 = 103 := by decide +kernel
theorem d_M_fall_103 : decode c_M_fall 103 = .ok (.iload_n 3, 1) ∧ 103 + 1 = 104 := by decide +kernel
theorem d_M_fall_104 : decode c_M_fall 104 = .ok (.iaload, 1) ∧ 104 + 1 = 105 := by decide +kernel
theorem d_M_fall_105 : decode c_M_fall 105 = .ok (.iastore, 1) ∧ 105 + 1 = 106 := by decide +kernel
theorem d_M_fall_106 : decode c_M_fall 106 = .ok (.iinc 3 1, 3) ∧ 106 + 3 = 109 := by decide +kernel
theorem d_M_fall_109 : decode c_M_fall 109 = .ok (.goto (-46), 3) ∧ (109 : Int) + (-46) = (63 : Int) := by decide +kernel
theorem d_M_fall_112 : decode c_M_fall 112 = .ok (.iinc 2 1, 3) ∧ 112 + 3 = 115 := by decide +kernel
theorem d_M_fall_115 : decode c_M_fall 115 = .ok (.goto (-85), 3) ∧ (115 : Int) + (-85) = (30 : Int) := by decide +kernel
theorem d_M_fall_118 : decode c_M_fall 118 = .ok (.return_, 1) ∧ 118 + 1 = 119 := by decide +kernel
set_option maxHeartbeats 4000000 in
theorem w_M_fall_L63 {Z : Sy} {Γ : Nat → List (Nat × Value) → List Value → St → Prop} {res : St} {x2 : Int32} {k30 : Int32 → Int32 → St → Option St} (h : IsG YM Z R_M c_M_fall 4 2 none none res Γ) (hk30 : ∀ (x1 : Int32) (x2 : Int32) (σ : St), k30 x1 x2 σ = some res → Γ 30 [(0, .ref (ya Z 0)), (1, .int x1), (2, .int x2)] [] σ) : ∀ (n : Nat) (x1 : Int32) (x3 : Int32) (σ : St), M_fall_L63 x2 k30 n x1 x3 σ = some res → Γ 63 [(0, .ref (ya Z 0)), (1, .int x1), (2, .int x2), (3, .int x3)] [] σ := by
  intro n
  induction n with
  | zero => intro x1 x3 σ hf; exact absurd hf (by simp [M_fall_L63])
  | succ n ih =>
    intro x1 x3 σ hf
    rw [M_fall_L63] at hf
    refine r_iload_n h d_M_fall_63 3 rfl rfl ?_
    refine r_bipush h d_M_fall_64 kb_100 ?_
    refine r_icmp_ge h d_M_fall_66 hf (fun hf => ?_) (fun hf => ?_)
    · refine r_iinc (ls' := [(2, .int (x2 + (1 : Int32))), (0, .ref (ya Z 0)), (1, .int x1), (3, .int x3)]) h d_M_fall_112 2 rfl ki_1 (by decide) rfl ?_
      refine r_goto h d_M_fall_115 ?_
      refine r_sub h [1, 2, 0] rfl ?_
      exact hk30 _ _ _ hf
    · refine r_iload_n h d_M_fall_69 1 rfl rfl ?_
      refine r_if_ne h d_M_fall_70 hf (fun hf => ?_) (fun hf => ?_)
      · refine r_iconst h d_M_fall_88 ki_1 ?_
        refine r_goto h d_M_fall_89 ?_
        refine r_istore_n (ls' := [(1, .int (1 : Int32)), (0, .ref (ya Z 0)), (2, .int x2), (3, .int x3)]) h d_M_fall_93 rfl (by decide) rfl ?_
        refine r_aload_n h d_M_fall_94 1 rfl rfl ?_
        refine r_getR h fd_YM_0_58 cf_M fl_M_146 d_M_fall_95 ?_
        refine r_iload_n h d_M_fall_98 3 rfl rfl ?_
        refine r_aload_n h d_M_fall_99 1 rfl rfl ?_
        refine r_getR h fd_YM_0_59 cf_M fl_M_149 d_M_fall_100 ?_
        refine r_iload_n h d_M_fall_103 3 rfl rfl ?_
        refine r_iald h sh_YM_47 d_M_fall_104 hf (fun hf => ?_)
        refine r_iast h sh_YM_46 d_M_fall_105 hf (fun hf => ?_)
        refine r_iinc (ls' := [(3, .int (x3 + (1 : Int32))), (1, .int (1 : Int32)), (0, .ref (ya Z 0)), (2, .int x2)]) h d_M_fall_106 3 rfl ki_1 (by decide) rfl ?_
        refine r_goto h d_M_fall_109 ?_
        refine r_sub h [2, 1, 3, 0] rfl ?_
        exact ih _ _ _ hf
      · refine r_aload_n h d_M_fall_73 0 rfl rfl ?_
        refine r_getR h fd_YM_0_58 cf_M fl_M_146 d_M_fall_74 ?_
        refine r_iload_n h d_M_fall_77 3 rfl rfl ?_
        refine r_iald h sh_YM_46 d_M_fall_78 hf (fun hf => ?_)
        refine r_aload_n h d_M_fall_79 0 rfl rfl ?_
        refine r_getR h fd_YM_0_59 cf_M fl_M_149 d_M_fall_80 ?_
        refine r_iload_n h d_M_fall_83 3 rfl rfl ?_
        refine r_iald h sh_YM_47 d_M_fall_84 hf (fun hf => ?_)
        refine r_icmp_eq h d_M_fall_85 hf (fun hf => ?_) (fun hf => ?_)
        · refine r_iconst h d_M_fall_92 ki_0 ?_
          refine r_istore_n (ls' := [(1, .int (0 : Int32)), (0, .ref (ya Z 0)), (2, .int x2), (3, .int x3)]) h d_M_fall_93 rfl (by decide) rfl ?_
          refine r_aload_n h d_M_fall_94 1 rfl rfl ?_
          refine r_getR h fd_YM_0_58 cf_M fl_M_146 d_M_fall_95 ?_
          refine r_iload_n h d_M_fall_98 3 rfl rfl ?_
          refine r_aload_n h d_M_fall_99 1 rfl rfl ?_
          refine r_getR h fd_YM_0_59 cf_M fl_M_149 d_M_fall_100 ?_
          refine r_iload_n h d_M_fall_103 3 rfl rfl ?_
          refine r_iald h sh_YM_47 d_M_fall_104 hf (fun hf => ?_)
          refine r_iast h sh_YM_46 d_M_fall_105 hf (fun hf => ?_)
          refine r_iinc (ls' := [(3, .int (x3 + (1 : Int32))), (1, .int (0 : Int32)), (0, .ref (ya Z 0)), (2, .int x2)]) h d_M_fall_106 3 rfl ki_1 (by decide) rfl ?_
          refine r_goto h d_M_fall_109 ?_
          refine r_sub h [2, 1, 3, 0] rfl ?_
          exact ih _ _ _ hf
        · refine r_iconst h d_M_fall_88 ki_1 ?_
          refine r_goto h d_M_fall_89 ?_
          refine r_istore_n (ls' := [(1, .int (1 : Int32)), (0, .ref (ya Z 0)), (2, .int x2), (3, .int x3)]) h d_M_fall_93 rfl (by decide) rfl ?_
          refine r_aload_n h d_M_fall_94 1 rfl rfl ?_
          refine r_getR h fd_YM_0_58 cf_M fl_M_146 d_M_fall_95 ?_
          refine r_iload_n h d_M_fall_98 3 rfl rfl ?_
          refine r_aload_n h d_M_fall_99 1 rfl rfl ?_
          refine r_getR h fd_YM_0_59 cf_M fl_M_149 d_M_fall_100 ?_
          refine r_iload_n h d_M_fall_103 3 rfl rfl ?_
          refine r_iald h sh_YM_47 d_M_fall_104 hf (fun hf => ?_)
          refine r_iast h sh_YM_46 d_M_fall_105 hf (fun hf => ?_)
          refine r_iinc (ls' := [(3, .int (x3 + (1 : Int32))), (1, .int (1 : Int32)), (0, .ref (ya Z 0)), (2, .int x2)]) h d_M_fall_106 3 rfl ki_1 (by decide) rfl ?_
          refine r_goto h d_M_fall_109 ?_
          refine r_sub h [2, 1, 3, 0] rfl ?_
          exact ih _ _ _ hf

set_option maxHeartbeats 4000000 in
theorem w_M_fall_L42 {Z : Sy} {Γ : Nat → List (Nat × Value) → List Value → St → Prop} {res : St} {x2 : Int32} {k30 : Int32 → Int32 → St → Option St} (h : IsG YM Z R_M c_M_fall 4 2 none none res Γ) (hk30 : ∀ (x1 : Int32) (x2 : Int32) (σ : St), k30 x1 x2 σ = some res → Γ 30 [(0, .ref (ya Z 0)), (1, .int x1), (2, .int x2)] [] σ) : ∀ (n : Nat) (x3 : Int32) (σ : St), M_fall_L42 x2 k30 n x3 σ = some res → Γ 42 [(0, .ref (ya Z 0)), (2, .int x2), (3, .int x3)] [] σ := by
  intro n
  induction n with
  | zero => intro x3 σ hf; exact absurd hf (by simp [M_fall_L42])
  | succ n ih =>
    intro x3 σ hf
    rw [M_fall_L42] at hf
    refine r_iload_n h d_M_fall_42 2 rfl rfl ?_
    refine r_bipush h d_M_fall_43 kb_10 ?_
    refine r_icmp_ge h d_M_fall_45 hf (fun hf => ?_) (fun hf => ?_)
    · refine r_iconst h d_M_fall_59 ki_0 ?_
      refine r_istore_n (ls' := [(1, .int (0 : Int32)), (0, .ref (ya Z 0)), (2, .int x2), (3, .int x3)]) h d_M_fall_60 rfl (by decide) rfl ?_
      refine r_iconst h d_M_fall_61 ki_0 ?_
      refine r_istore_n (ls' := [(3, .int (0 : Int32)), (1, .int (0 : Int32)), (0, .ref (ya Z 0)), (2, .int x2)]) h d_M_fall_62 rfl (by decide) rfl ?_
      refine r_sub h [2, 1, 3, 0] rfl ?_
      exact w_M_fall_L63 h hk30 _ _ _ _ hf
    · refine r_aload_n h d_M_fall_48 0 rfl rfl ?_
      refine r_iload_n h d_M_fall_49 2 rfl rfl ?_
      obtain ⟨q50, e50, hf⟩ := q_bind hf
      refine r_callV (As := [.int x3]) (rest := []) h sh_YM_0 lk_M_422 vk_M_422 d_M_fall_50 (by decide) rfl rfl (Nat.le_of_ble_eq_true rfl) (m_M_payFrom e50) ?_
      refine r_iinc (ls' := [(3, .int (x3 + (1 : Int32))), (0, .ref (ya Z 0)), (2, .int x2)]) h d_M_fall_53 2 rfl ki_1 (by decide) rfl ?_
      refine r_goto h d_M_fall_56 ?_
      refine r_sub h [1, 2, 0] rfl ?_
      exact ih _ _ hf

set_option maxHeartbeats 4000000 in
theorem w_M_fall_L30 {Z : Sy} {Γ : Nat → List (Nat × Value) → List Value → St → Prop} {res : St} (h : IsG YM Z R_M c_M_fall 4 2 none none res Γ) : ∀ (n : Nat) (x1 : Int32) (x2 : Int32) (σ : St), M_fall_L30 n x1 x2 σ = some res → Γ 30 [(0, .ref (ya Z 0)), (1, .int x1), (2, .int x2)] [] σ := by
  intro n
  induction n with
  | zero => intro x1 x2 σ hf; exact absurd hf (by simp [M_fall_L30])
  | succ n ih =>
    intro x1 x2 σ hf
    rw [M_fall_L30] at hf
    refine r_iload_n h d_M_fall_30 2 rfl rfl ?_
    refine r_bipush h d_M_fall_31 kb_60 ?_
    refine r_icmp_ge h d_M_fall_33 hf (fun hf => ?_) (fun hf => ?_)
    · exact r_vreturn h d_M_fall_118.1 (Option.some.inj hf)
    · refine r_iload_n h d_M_fall_36 1 rfl rfl ?_
      refine r_if_eq h d_M_fall_37 hf (fun hf => ?_) (fun hf => ?_)
      · exact r_vreturn h d_M_fall_118.1 (Option.some.inj hf)
      · refine r_iconst h d_M_fall_40 ki_0 ?_
        refine r_istore_n (ls' := [(3, .int (0 : Int32)), (0, .ref (ya Z 0)), (1, .int x1), (2, .int x2)]) h d_M_fall_41 rfl (by decide) rfl ?_
        refine r_sub h [1, 3, 0] rfl ?_
        exact w_M_fall_L42 h (fun y1 y2 τ hf => ih y1 y2 τ hf) _ _ _ hf

set_option maxHeartbeats 4000000 in
theorem w_M_fall_L2 {Z : Sy} {Γ : Nat → List (Nat × Value) → List Value → St → Prop} {res : St} (h : IsG YM Z R_M c_M_fall 4 2 none none res Γ) : ∀ (n : Nat) (x1 : Int32) (σ : St), M_fall_L2 n x1 σ = some res → Γ 2 [(0, .ref (ya Z 0)), (1, .int x1)] [] σ := by
  intro n
  induction n with
  | zero => intro x1 σ hf; exact absurd hf (by simp [M_fall_L2])
  | succ n ih =>
    intro x1 σ hf
    rw [M_fall_L2] at hf
    refine r_iload_n h d_M_fall_2 1 rfl rfl ?_
    refine r_bipush h d_M_fall_3 kb_100 ?_
    refine r_icmp_ge h d_M_fall_5 hf (fun hf => ?_) (fun hf => ?_)
    · refine r_iconst h d_M_fall_26 ki_1 ?_
      refine r_istore_n (ls' := [(1, .int (1 : Int32)), (0, .ref (ya Z 0))]) h d_M_fall_27 rfl (by decide) rfl ?_
      refine r_iconst h d_M_fall_28 ki_0 ?_
      refine r_istore_n (ls' := [(2, .int (0 : Int32)), (1, .int (1 : Int32)), (0, .ref (ya Z 0))]) h d_M_fall_29 rfl (by decide) rfl ?_
      refine r_sub h [2, 1, 0] rfl ?_
      exact w_M_fall_L30 h _ _ _ _ hf
    · refine r_aload_n h d_M_fall_8 0 rfl rfl ?_
      refine r_getR h fd_YM_0_58 cf_M fl_M_146 d_M_fall_9 ?_
      refine r_iload_n h d_M_fall_12 1 rfl rfl ?_
      refine r_aload_n h d_M_fall_13 0 rfl rfl ?_
      refine r_getR h fd_YM_0_53 cf_M fl_M_134 d_M_fall_14 ?_
      refine r_iload_n h d_M_fall_17 1 rfl rfl ?_
      refine r_iald h sh_YM_42 d_M_fall_18 hf (fun hf => ?_)
      refine r_iast h sh_YM_46 d_M_fall_19 hf (fun hf => ?_)
      refine r_iinc (ls' := [(1, .int (x1 + (1 : Int32))), (0, .ref (ya Z 0))]) h d_M_fall_20 1 rfl ki_1 (by decide) rfl ?_
      refine r_goto h d_M_fall_23 ?_
      refine r_sub h [1, 0] rfl ?_
      exact ih _ _ hf

set_option maxHeartbeats 4000000 in
theorem m_M_fall {Z : Sy} {σ : St} {res : St} (hf : M_fall  σ = some res) : Ct YM Z y_M_fall c_M_fall 4 none 2 [.ref (ya Z 0)] σ none res := by
  refine Ct.of pn_M (Nat.le_of_ble_eq_true rfl) rfl (fun Γ h => ?_)
  have h : IsG YM Z R_M c_M_fall 4 2 none none res Γ := h
  unfold M_fall at hf
  refine r_iconst h d_M_fall_0 ki_0 ?_
  refine r_istore_n (ls' := [(1, .int (0 : Int32)), (0, .ref (ya Z 0))]) h d_M_fall_1 rfl (by decide) rfl ?_
  refine r_sub h [1, 0] rfl ?_
  exact w_M_fall_L2 h _ _ _ hf

theorem d_M_pays_0 : decode c_M_pays 0 = .ok (.iload_n 1, 1) ∧ 0 + 1 = 1 := by decide +kernel
theorem d_M_pays_1 : decode c_M_pays 1 = .ok (.invokestatic 402, 3) ∧ 1 + 3 = 4 := by decide +kernel
theorem d_M_pays_4 : decode c_M_pays 4 = .ok (.ifCond .eq 10, 3) ∧ 4 + 3 = 7 ∧ ((4 : Nat) : Int) + 10 = ((14 : Nat) : Int) := by decide +kernel
theorem d_M_pays_7 : decode c_M_pays 7 = .ok (.iload_n 2, 1) ∧ 7 + 1 = 8 := by decide +kernel
theorem d_M_pays_8 : decode c_M_pays 8 = .ok (.invokestatic 402, 3) ∧ 8 + 3 = 11 := by decide +kernel
theorem d_M_pays_11 : decode c_M_pays 11 = .ok (.ifCond .ne 6, 3) ∧ 11 + 3 = 14 ∧ ((11 : Nat) : Int) + 6 = ((17 : Nat) : Int) := by decide +kernel
theorem d_M_pays_14 : decode c_M_pays 14 = .ok (.bipush (-2), 2) ∧ 14 + 2 = 16 := by decide +kernel
theorem d_M_pays_16 : decode c_M_pays 16 = .ok (.ireturn, 1) ∧ 16 + 1 = 17 := by decide +kernel
theorem d_M_pays_17 : decode c_M_pays 17 = .ok (.aload_n 0, 1) ∧ 17 + 1 = 18 := by decide +kernel
theorem d_M_pays_18 : decode c_M_pays 18 = .ok (.invokevirtual 425, 3) ∧ 18 + 3 = 21 := by decide +kernel
theorem d_M_pays_21 : decode c_M_pays 21 = .ok (.aload_n 0, 1) ∧ 21 + 1 = 22 := by decide +kernel
theorem d_M_pays_22 : decode c_M_pays 22 = .ok (.getfield 146, 3) ∧ 22 + 3 = 25 := by decide +kernel
theorem d_M_pays_25 : decode c_M_pays 25 = .ok (.bipush 10, 2) ∧ 25 + 2 = 27 := by decide +kernel
theorem d_M_pays_27 : decode c_M_pays 27 = .ok (.iload_n 1, 1) ∧ 27 + 1 = 28 := by decide +kernel
theorem d_M_pays_28 : decode c_M_pays 28 = .ok (.imul, 1) ∧ 28 + 1 = 29 := by decide +kernel
theorem d_M_pays_29 : decode c_M_pays 29 = .ok (.iload_n 2, 1) ∧ 29 + 1 = 30 := by decide +kernel
theorem d_M_pays_30 : decode c_M_pays 30 = .ok (.iadd, 1) ∧ 30 + 1 = 31 := by decide +kernel
theorem d_M_pays_31 : decode c_M_pays 31 = .ok (.iaload, 1) ∧ 31 + 1 = 32 := by decide +kernel
theorem d_M_pays_32 : decode c_M_pays 32 = .ok (.ireturn, 1) ∧ 32 + 1 = 33 := by decide +kernel
set_option maxHeartbeats 4000000 in
theorem m_M_pays {Z : Sy} {σ : St} {res : (Int32 × St)} {x1 : Int32} {x2 : Int32} (hf : M_pays x1 x2 σ = some res) : Ct YM Z y_M_pays c_M_pays 3 (some .int) 3 [.ref (ya Z 0), .int x1, .int x2] σ (some (.int res.1)) res.2 := by
  refine Ct.of pn_M (Nat.le_of_ble_eq_true rfl) rfl (fun Γ h => ?_)
  have h : IsG YM Z R_M c_M_pays 3 3 (some .int) (some (.int res.1)) res.2 Γ := h
  unfold M_pays at hf
  refine r_iload_n h d_M_pays_0 1 rfl rfl ?_
  obtain ⟨r1, e1, hf⟩ := q_bind hf
  refine r_callS (As := [.int x1]) (rest := []) h lk_M_402 sk_M_402 d_M_pays_1 (by decide) rfl rfl (Nat.le_of_ble_eq_true rfl) (m_M_isParty e1) ?_
  refine r_bif_eq h d_M_pays_4 hf (fun hf => ?_) (fun hf => ?_)
  · refine r_bipush h d_M_pays_14 kb_m2 ?_
    exact r_ireturn h d_M_pays_16.1 (q_p1 hf) (q_p2 hf)
  · refine r_iload_n h d_M_pays_7 2 rfl rfl ?_
    obtain ⟨r8, e8, hf⟩ := q_bind hf
    refine r_callS (As := [.int x2]) (rest := []) h lk_M_402 sk_M_402 d_M_pays_8 (by decide) rfl rfl (Nat.le_of_ble_eq_true rfl) (m_M_isParty e8) ?_
    refine r_bif_ne h d_M_pays_11 hf (fun hf => ?_) (fun hf => ?_)
    · refine r_aload_n h d_M_pays_17 0 rfl rfl ?_
      obtain ⟨q18, e18, hf⟩ := q_bind hf
      refine r_callV (As := []) (rest := []) h sh_YM_0 lk_M_425 vk_M_425 d_M_pays_18 (by decide) rfl rfl (Nat.le_of_ble_eq_true rfl) (m_M_fall e18) ?_
      refine r_aload_n h d_M_pays_21 0 rfl rfl ?_
      refine r_getR h fd_YM_0_58 cf_M fl_M_146 d_M_pays_22 ?_
      refine r_bipush h d_M_pays_25 kb_10 ?_
      refine r_iload_n h d_M_pays_27 1 rfl rfl ?_
      refine r_imul h d_M_pays_28 ?_
      refine r_iload_n h d_M_pays_29 2 rfl rfl ?_
      refine r_iadd h d_M_pays_30 ?_
      refine r_iald h sh_YM_46 d_M_pays_31 hf (fun hf => ?_)
      exact r_ireturn h d_M_pays_32.1 (q_p1 hf) (q_p2 hf)
    · refine r_bipush h d_M_pays_14 kb_m2 ?_
      exact r_ireturn h d_M_pays_16.1 (q_p1 hf) (q_p2 hf)

theorem d_M_ruin_0 : decode c_M_ruin 0 = .ok (.aload_n 0, 1) ∧ 0 + 1 = 1 := by decide +kernel
theorem d_M_ruin_1 : decode c_M_ruin 1 = .ok (.invokevirtual 425, 3) ∧ 1 + 3 = 4 := by decide +kernel
theorem d_M_ruin_4 : decode c_M_ruin 4 = .ok (.iconst 0, 1) ∧ 4 + 1 = 5 := by decide +kernel
theorem d_M_ruin_5 : decode c_M_ruin 5 = .ok (.istore_n 1, 1) ∧ 5 + 1 = 6 := by decide +kernel
theorem d_M_ruin_6 : decode c_M_ruin 6 = .ok (.iconst 0, 1) ∧ 6 + 1 = 7 := by decide +kernel
theorem d_M_ruin_7 : decode c_M_ruin 7 = .ok (.istore_n 2, 1) ∧ 7 + 1 = 8 := by decide +kernel
theorem d_M_ruin_8 : decode c_M_ruin 8 = .ok (.iload_n 2, 1) ∧ 8 + 1 = 9 := by decide +kernel
theorem d_M_ruin_9 : decode c_M_ruin 9 = .ok (.bipush 100, 2) ∧ 9 + 2 = 11 := by decide +kernel
theorem d_M_ruin_11 : decode c_M_ruin 11 = .ok (.if_icmp .ge 37, 3) ∧ 11 + 3 = 14 ∧ ((11 : Nat) : Int) + 37 = ((48 : Nat) : Int) := by decide +kernel
theorem d_M_ruin_14 : decode c_M_ruin 14 = .ok (.iload_n 1, 1) ∧ 14 + 1 = 15 := by decide +kernel
theorem d_M_ruin_15 : decode c_M_ruin 15 = .ok (.aload_n 0, 1) ∧ 15 + 1 = 16 := by decide +kernel
theorem d_M_ruin_16 : decode c_M_ruin 16 = .ok (.getfield 146, 3) ∧ 16 + 3 = 19 := by decide +kernel
theorem d_M_ruin_19 : decode c_M_ruin 19 = .ok (.iload_n 2, 1) ∧ 19 + 1 = 20 := by decide +kernel
theorem d_M_ruin_20 : decode c_M_ruin 20 = .ok (.iaload, 1) ∧ 20 + 1 = 21 := by decide +kernel
theorem d_M_ruin_21 : decode c_M_ruin 21 = .ok (.aload_n 0, 1) ∧ 21 + 1 = 22 := by decide +kernel
theorem d_M_ruin_22 : decode c_M_ruin 22 = .ok (.getfield 134, 3) ∧ 22 + 3 = 25 := by decide +kernel
theorem d_M_ruin_25 : decode c_M_ruin 25 = .ok (.iload_n 2, 1) ∧ 25 + 1 = 26 := by decide +kernel
theorem d_M_ruin_26 : decode c_M_ruin 26 = .ok (.iaload, 1) ∧ 26 + 1 = 27 := by decide +kernel
theorem d_M_ruin_27 : decode c_M_ruin 27 = .ok (.if_icmp .ge 12, 3) ∧ 27 + 3 = 30 ∧ ((27 : Nat) : Int) + 12 = ((39 : Nat) : Int) := by decide +kernel
theorem d_M_ruin_30 : decode c_M_ruin 30 = .ok (.iconst 1, 1) ∧ 30 + 1 = 31 := by decide +kernel
theorem d_M_ruin_31 : decode c_M_ruin 31 = .ok (.iload_n 2, 1) ∧ 31 + 1 = 32 := by decide +kernel
theorem d_M_ruin_32 : decode c_M_ruin 32 = .ok (.bipush 10, 2) ∧ 32 + 2 = 34 := by decide +kernel
theorem d_M_ruin_34 : decode c_M_ruin 34 = .ok (.idiv, 1) ∧ 34 + 1 = 35 := by decide +kernel
theorem d_M_ruin_35 : decode c_M_ruin 35 = .ok (.ishl, 1) ∧ 35 + 1 = 36 := by decide +kernel
theorem d_M_ruin_36 : decode c_M_ruin 36 = .ok (.goto 4, 3) ∧ (36 : Int) + 4 = (40 : Int) := by decide +kernel
theorem d_M_ruin_39 : decode c_M_ruin 39 = .ok (.iconst 0, 1) ∧ 39 + 1 = 40 := by decide +kernel
theorem d_M_ruin_40 : decode c_M_ruin 40 = .ok (.ior, 1) ∧ 40 + 1 = 41 := by decide +kernel
theorem d_M_ruin_41 : decode c_M_ruin 41 = .ok (.istore_n 1, 1) ∧ 41 + 1 = 42 := by decide +kernel
theorem d_M_ruin_42 : decode c_M_ruin 42 = .ok (.iinc 2 1, 3) ∧ 42 + 3 = 45 := by decide +kernel
theorem d_M_ruin_45 : decode c_M_ruin 45 = .ok (.goto (-37), 3) ∧ (45 : Int) + (-37) = (8 : Int) := by decide +kernel
theorem d_M_ruin_48 : decode c_M_ruin 48 = .ok (.iload_n 1, 1) ∧ 48 + 1 = 49 := by decide +kernel
theorem d_M_ruin_49 : decode c_M_ruin 49 = .ok (.ireturn, 1) ∧ 49 + 1 = 50 := by decide +kernel
set_option maxHeartbeats 4000000 in
theorem w_M_ruin_L8 {Z : Sy} {Γ : Nat → List (Nat × Value) → List Value → St → Prop} {res : (Int32 × St)} {σ : St} (h : IsG YM Z R_M c_M_ruin 3 3 (some .int) (some (.int res.1)) res.2 Γ) : ∀ (n : Nat) (x1 : Int32) (x2 : Int32), M_ruin_L8 σ n x1 x2 = some res → Γ 8 [(0, .ref (ya Z 0)), (1, .int x1), (2, .int x2)] [] σ := by
  intro n
  induction n with
  | zero => intro x1 x2 hf; exact absurd hf (by simp [M_ruin_L8])
  | succ n ih =>
    intro x1 x2 hf
    rw [M_ruin_L8] at hf
    refine r_iload_n h d_M_ruin_8 2 rfl rfl ?_
    refine r_bipush h d_M_ruin_9 kb_100 ?_
    refine r_icmp_ge h d_M_ruin_11 hf (fun hf => ?_) (fun hf => ?_)
    · refine r_iload_n h d_M_ruin_48 1 rfl rfl ?_
      exact r_ireturn h d_M_ruin_49.1 (q_p1 hf) (q_p2 hf)
    · refine r_iload_n h d_M_ruin_14 1 rfl rfl ?_
      refine r_aload_n h d_M_ruin_15 0 rfl rfl ?_
      refine r_getR h fd_YM_0_58 cf_M fl_M_146 d_M_ruin_16 ?_
      refine r_iload_n h d_M_ruin_19 2 rfl rfl ?_
      refine r_iald h sh_YM_46 d_M_ruin_20 hf (fun hf => ?_)
      refine r_aload_n h d_M_ruin_21 0 rfl rfl ?_
      refine r_getR h fd_YM_0_53 cf_M fl_M_134 d_M_ruin_22 ?_
      refine r_iload_n h d_M_ruin_25 2 rfl rfl ?_
      refine r_iald h sh_YM_42 d_M_ruin_26 hf (fun hf => ?_)
      refine r_icmp_ge h d_M_ruin_27 hf (fun hf => ?_) (fun hf => ?_)
      · refine r_iconst h d_M_ruin_39 ki_0 ?_
        refine r_ior h d_M_ruin_40 ?_
        refine r_istore_n (ls' := [(1, .int (x1 ||| (0 : Int32))), (0, .ref (ya Z 0)), (2, .int x2)]) h d_M_ruin_41 rfl (by decide) rfl ?_
        refine r_iinc (ls' := [(2, .int (x2 + (1 : Int32))), (1, .int (x1 ||| (0 : Int32))), (0, .ref (ya Z 0))]) h d_M_ruin_42 2 rfl ki_1 (by decide) rfl ?_
        refine r_goto h d_M_ruin_45 ?_
        refine r_sub h [2, 1, 0] rfl ?_
        exact ih _ _ hf
      · refine r_iconst h d_M_ruin_30 ki_1 ?_
        refine r_iload_n h d_M_ruin_31 2 rfl rfl ?_
        refine r_bipush h d_M_ruin_32 kb_10 ?_
        refine r_idiv h d_M_ruin_34 (by decide) ?_
        refine r_ishl h d_M_ruin_35 ?_
        refine r_goto h d_M_ruin_36 ?_
        refine r_ior h d_M_ruin_40 ?_
        refine r_istore_n (ls' := [(1, .int (x1 ||| ((1 : Int32) <<< ((x2 / (10 : Int32)) &&& 31)))), (0, .ref (ya Z 0)), (2, .int x2)]) h d_M_ruin_41 rfl (by decide) rfl ?_
        refine r_iinc (ls' := [(2, .int (x2 + (1 : Int32))), (1, .int (x1 ||| ((1 : Int32) <<< ((x2 / (10 : Int32)) &&& 31)))), (0, .ref (ya Z 0))]) h d_M_ruin_42 2 rfl ki_1 (by decide) rfl ?_
        refine r_goto h d_M_ruin_45 ?_
        refine r_sub h [2, 1, 0] rfl ?_
        exact ih _ _ hf

set_option maxHeartbeats 4000000 in
theorem m_M_ruin {Z : Sy} {σ : St} {res : (Int32 × St)} (hf : M_ruin  σ = some res) : Ct YM Z y_M_ruin c_M_ruin 3 (some .int) 3 [.ref (ya Z 0)] σ (some (.int res.1)) res.2 := by
  refine Ct.of pn_M (Nat.le_of_ble_eq_true rfl) rfl (fun Γ h => ?_)
  have h : IsG YM Z R_M c_M_ruin 3 3 (some .int) (some (.int res.1)) res.2 Γ := h
  unfold M_ruin at hf
  refine r_aload_n h d_M_ruin_0 0 rfl rfl ?_
  obtain ⟨q1, e1, hf⟩ := q_bind hf
  refine r_callV (As := []) (rest := []) h sh_YM_0 lk_M_425 vk_M_425 d_M_ruin_1 (by decide) rfl rfl (Nat.le_of_ble_eq_true rfl) (m_M_fall e1) ?_
  refine r_iconst h d_M_ruin_4 ki_0 ?_
  refine r_istore_n (ls' := [(1, .int (0 : Int32)), (0, .ref (ya Z 0))]) h d_M_ruin_5 rfl (by decide) rfl ?_
  refine r_iconst h d_M_ruin_6 ki_0 ?_
  refine r_istore_n (ls' := [(2, .int (0 : Int32)), (1, .int (0 : Int32)), (0, .ref (ya Z 0))]) h d_M_ruin_7 rfl (by decide) rfl ?_
  refine r_sub h [2, 1, 0] rfl ?_
  exact w_M_ruin_L8 h _ _ _ hf

theorem d_M_round_0 : decode c_M_round 0 = .ok (.iload_n 1, 1) ∧ 0 + 1 = 1 := by decide +kernel
theorem d_M_round_1 : decode c_M_round 1 = .ok (.invokestatic 291, 3) ∧ 1 + 3 = 4 := by decide +kernel
theorem d_M_round_4 : decode c_M_round 4 = .ok (.ifCond .eq 9, 3) ∧ 4 + 3 = 7 ∧ ((4 : Nat) : Int) + 9 = ((13 : Nat) : Int) := by decide +kernel
theorem d_M_round_7 : decode c_M_round 7 = .ok (.aload_n 0, 1) ∧ 7 + 1 = 8 := by decide +kernel
theorem d_M_round_8 : decode c_M_round 8 = .ok (.iconst (-1), 1) ∧ 8 + 1 = 9 := by decide +kernel
theorem d_M_round_9 : decode c_M_round 9 = .ok (.invokevirtual 294, 3) ∧ 9 + 3 = 12 := by decide +kernel
theorem d_M_round_12 : decode c_M_round 12 = .ok (.ireturn, 1) ∧ 12 + 1 = 13 := by decide +kernel
theorem d_M_round_13 : decode c_M_round 13 = .ok (.aload_n 0, 1) ∧ 13 + 1 = 14 := by decide +kernel
theorem d_M_round_14 : decode c_M_round 14 = .ok (.iload_n 1, 1) ∧ 14 + 1 = 15 := by decide +kernel
theorem d_M_round_15 : decode c_M_round 15 = .ok (.iload_n 2, 1) ∧ 15 + 1 = 16 := by decide +kernel
theorem d_M_round_16 : decode c_M_round 16 = .ok (.iload_n 3, 1) ∧ 16 + 1 = 17 := by decide +kernel
theorem d_M_round_17 : decode c_M_round 17 = .ok (.iload 4, 2) ∧ 17 + 2 = 19 := by decide +kernel
theorem d_M_round_19 : decode c_M_round 19 = .ok (.i2l, 1) ∧ 19 + 1 = 20 := by decide +kernel
theorem d_M_round_20 : decode c_M_round 20 = .ok (.invokevirtual 298, 3) ∧ 20 + 3 = 23 := by decide +kernel
theorem d_M_round_23 : decode c_M_round 23 = .ok (.istore 5, 2) ∧ 23 + 2 = 25 := by decide +kernel
theorem d_M_round_25 : decode c_M_round 25 = .ok (.iload 5, 2) ∧ 25 + 2 = 27 := by decide +kernel
theorem d_M_round_27 : decode c_M_round 27 = .ok (.ifCond .ge 6, 3) ∧ 27 + 3 = 30 ∧ ((27 : Nat) : Int) + 6 = ((33 : Nat) : Int) := by decide +kernel
theorem d_M_round_30 : decode c_M_round 30 = .ok (.iload 5, 2) ∧ 30 + 2 = 32 := by decide +kernel
theorem d_M_round_32 : decode c_M_round 32 = .ok (.ireturn, 1) ∧ 32 + 1 = 33 := by decide +kernel
theorem d_M_round_33 : decode c_M_round 33 = .ok (.iload 4, 2) ∧ 33 + 2 = 35 := by decide +kernel
theorem d_M_round_35 : decode c_M_round 35 = .ok (.i2l, 1) ∧ 35 + 1 = 36 := by decide +kernel
theorem d_M_round_36 : decode c_M_round 36 = .ok (.lconst 1, 1) ∧ 36 + 1 = 37 := by decide +kernel
theorem d_M_round_37 : decode c_M_round 37 = .ok (.ldc2_w 431, 3) ∧ 37 + 3 = 40 := by decide +kernel
theorem d_M_round_40 : decode c_M_round 40 = .ok (.invokestatic 201, 3) ∧ 40 + 3 = 43 := by decide +kernel
theorem d_M_round_43 : decode c_M_round 43 = .ok (.ifCond .ne 10, 3) ∧ 43 + 3 = 46 ∧ ((43 : Nat) : Int) + 10 = ((53 : Nat) : Int) := by decide +kernel
theorem d_M_round_46 : decode c_M_round 46 = .ok (.aload_n 0, 1) ∧ 46 + 1 = 47 := by decide +kernel
theorem d_M_round_47 : decode c_M_round 47 = .ok (.bipush (-2), 2) ∧ 47 + 2 = 49 := by decide +kernel
theorem d_M_round_49 : decode c_M_round 49 = .ok (.invokevirtual 294, 3) ∧ 49 + 3 = 52 := by decide +kernel
theorem d_M_round_52 : decode c_M_round 52 = .ok (.ireturn, 1) ∧ 52 + 1 = 53 := by decide +kernel
theorem d_M_round_53 : decode c_M_round 53 = .ok (.iconst 0, 1) ∧ 53 + 1 = 54 := by decide +kernel
theorem d_M_round_54 : decode c_M_round 54 = .ok (.istore 6, 2) ∧ 54 + 2 = 56 := by decide +kernel
theorem d_M_round_56 : decode c_M_round 56 = .ok (.iload 6, 2) ∧ 56 + 2 = 58 := by decide +kernel
theorem d_M_round_58 : decode c_M_round 58 = .ok (.iload 4, 2) ∧ 58 + 2 = 60 := by decide +kernel
theorem d_M_round_60 : decode c_M_round 60 = .ok (.if_icmp .ge 36, 3) ∧ 60 + 3 = 63 ∧ ((60 : Nat) : Int) + 36 = ((96 : Nat) : Int) := by decide +kernel
theorem d_M_round_63 : decode c_M_round 63 = .ok (.aload_n 0, 1) ∧ 63 + 1 = 64 := by decide +kernel
theorem d_M_round_64 : decode c_M_round 64 = .ok (.aload_n 0, 1) ∧ 64 + 1 = 65 := by decide +kernel
theorem d_M_round_65 : decode c_M_round 65 = .ok (.getfield 191, 3) ∧ 65 + 3 = 68 := by decide +kernel
theorem d_M_round_68 : decode c_M_round 68 = .ok (.bipush 60, 2) ∧ 68 + 2 = 70 := by decide +kernel
theorem d_M_round_70 : decode c_M_round 70 = .ok (.iload_n 1, 1) ∧ 70 + 1 = 71 := by decide +kernel
theorem d_M_round_71 : decode c_M_round 71 = .ok (.imul, 1) ∧ 71 + 1 = 72 := by decide +kernel
theorem d_M_round_72 : decode c_M_round 72 = .ok (.iload_n 3, 1) ∧ 72 + 1 = 73 := by decide +kernel
theorem d_M_round_73 : decode c_M_round 73 = .ok (.iadd, 1) ∧ 73 + 1 = 74 := by decide +kernel
theorem d_M_round_74 : decode c_M_round 74 = .ok (.iload 6, 2) ∧ 74 + 2 = 76 := by decide +kernel
theorem d_M_round_76 : decode c_M_round 76 = .ok (.iadd, 1) ∧ 76 + 1 = 77 := by decide +kernel
theorem d_M_round_77 : decode c_M_round 77 = .ok (.iaload, 1) ∧ 77 + 1 = 78 := by decide +kernel
theorem d_M_round_78 : decode c_M_round 78 = .ok (.invokevirtual 240, 3) ∧ 78 + 3 = 81 := by decide +kernel
theorem d_M_round_81 : decode c_M_round 81 = .ok (.ifCond .eq 9, 3) ∧ 81 + 3 = 84 ∧ ((81 : Nat) : Int) + 9 = ((90 : Nat) : Int) := by decide +kernel
theorem d_M_round_84 : decode c_M_round 84 = .ok (.aload_n 0, 1) ∧ 84 + 1 = 85 := by decide +kernel
theorem d_M_round_85 : decode c_M_round 85 = .ok (.iconst (-1), 1) ∧ 85 + 1 = 86 := by decide +kernel
theorem d_M_round_86 : decode c_M_round 86 = .ok (.invokevirtual 294, 3) ∧ 86 + 3 = 89 := by decide +kernel
theorem d_M_round_89 : decode c_M_round 89 = .ok (.ireturn, 1) ∧ 89 + 1 = 90 := by decide +kernel
theorem d_M_round_90 : decode c_M_round 90 = .ok (.iinc 6 1, 3) ∧ 90 + 3 = 93 := by decide +kernel
theorem d_M_round_93 : decode c_M_round 93 = .ok (.goto (-37), 3) ∧ (93 : Int) + (-37) = (56 : Int) := by decide +kernel
theorem d_M_round_96 : decode c_M_round 96 = .ok (.aload_n 0, 1) ∧ 96 + 1 = 97 := by decide +kernel
theorem d_M_round_97 : decode c_M_round 97 = .ok (.getfield 428, 3) ∧ 97 + 3 = 100 := by decide +kernel
theorem d_M_round_100 : decode c_M_round 100 = .ok (.bipush 10, 2) ∧ 100 + 2 = 102 := by decide +kernel
theorem d_M_round_102 : decode c_M_round 102 = .ok (.if_icmp .ne 10, 3) ∧ 102 + 3 = 105 ∧ ((102 : Nat) : Int) + 10 = ((112 : Nat) : Int) := by decide +kernel
theorem d_M_round_105 : decode c_M_round 105 = .ok (.aload_n 0, 1) ∧ 105 + 1 = 106 := by decide +kernel
theorem d_M_round_106 : decode c_M_round 106 = .ok (.bipush (-4), 2) ∧ 106 + 2 = 108 := by decide +kernel
theorem d_M_round_108 : decode c_M_round 108 = .ok (.invokevirtual 294, 3) ∧ 108 + 3 = 111 := by decide +kernel
theorem d_M_round_111 : decode c_M_round 111 = .ok (.ireturn, 1) ∧ 111 + 1 = 112 := by decide +kernel
theorem d_M_round_112 : decode c_M_round 112 = .ok (.aload_n 0, 1) ∧ 112 + 1 = 113 := by decide +kernel
theorem d_M_round_113 : decode c_M_round 113 = .ok (.getfield 152, 3) ∧ 113 + 3 = 116 := by decide +kernel
theorem d_M_round_116 : decode c_M_round 116 = .ok (.aload_n 0, 1) ∧ 116 + 1 = 117 := by decide +kernel
theorem d_M_round_117 : decode c_M_round 117 = .ok (.getfield 428, 3) ∧ 117 + 3 = 120 := by decide +kernel
theorem d_M_round_120 : decode c_M_round 120 = .ok (.iload 4, 2) ∧ 120 + 2 = 122 := by decide +kernel
theorem d_M_round_122 : decode c_M_round 122 = .ok (.iastore, 1) ∧ 122 + 1 = 123 := by decide +kernel
theorem d_M_round_123 : decode c_M_round 123 = .ok (.iconst 0, 1) ∧ 123 + 1 = 124 := by decide +kernel
theorem d_M_round_124 : decode c_M_round 124 = .ok (.istore 6, 2) ∧ 124 + 2 = 126 := by decide +kernel
theorem d_M_round_126 : decode c_M_round 126 = .ok (.iload 6, 2) ∧ 126 + 2 = 128 := by decide +kernel
theorem d_M_round_128 : decode c_M_round 128 = .ok (.iload 4, 2) ∧ 128 + 2 = 130 := by decide +kernel
theorem d_M_round_130 : decode c_M_round 130 = .ok (.if_icmp .ge 38, 3) ∧ 130 + 3 = 133 ∧ ((130 : Nat) : Int) + 38 = ((168 : Nat) : Int) := by decide +kernel
theorem d_M_round_133 : decode c_M_round 133 = .ok (.aload_n 0, 1) ∧ 133 + 1 = 134 := by decide +kernel
theorem d_M_round_134 : decode c_M_round 134 = .ok (.getfield 155, 3) ∧ 134 + 3 = 137 := by decide +kernel
theorem d_M_round_137 : decode c_M_round 137 = .ok (.bipush 8, 2) ∧ 137 + 2 = 139 := by decide +kernel
theorem d_M_round_139 : decode c_M_round 139 = .ok (.aload_n 0, 1) ∧ 139 + 1 = 140 := by decide +kernel
theorem d_M_round_140 : decode c_M_round 140 = .ok (.getfield 428, 3) ∧ 140 + 3 = 143 := by decide +kernel
theorem d_M_round_143 : decode c_M_round 143 = .ok (.imul, 1) ∧ 143 + 1 = 144 := by decide +kernel
theorem d_M_round_144 : decode c_M_round 144 = .ok (.iload 6, 2) ∧ 144 + 2 = 146 := by decide +kernel
theorem d_M_round_146 : decode c_M_round 146 = .ok (.iadd, 1) ∧ 146 + 1 = 147 := by decide +kernel
theorem d_M_round_147 : decode c_M_round 147 = .ok (.aload_n 0, 1) ∧ 147 + 1 = 148 := by decide +kernel
theorem d_M_round_148 : decode c_M_round 148 = .ok (.getfield 191, 3) ∧ 148 + 3 = 151 := by decide +kernel
theorem d_M_round_151 : decode c_M_round 151 = .ok (.bipush 60, 2) ∧ 151 + 2 = 153 := by decide +kernel
theorem d_M_round_153 : decode c_M_round 153 = .ok (.iload_n 1, 1) ∧ 153 + 1 = 154 := by decide +kernel
theorem d_M_round_154 : decode c_M_round 154 = .ok (.imul, 1) ∧ 154 + 1 = 155 := by decide +kernel
theorem d_M_round_155 : decode c_M_round 155 = .ok (.iload_n 3, 1) ∧ 155 + 1 = 156 := by decide +kernel
theorem d_M_round_156 : decode c_M_round 156 = .ok (.iadd, 1) ∧ 156 + 1 = 157 := by decide +kernel
theorem d_M_round_157 : decode c_M_round 157 = .ok (.iload 6, 2) ∧ 157 + 2 = 159 := by decide +kernel
theorem d_M_round_159 : decode c_M_round 159 = .ok (.iadd, 1) ∧ 159 + 1 = 160 := by decide +kernel
theorem d_M_round_160 : decode c_M_round 160 = .ok (.iaload, 1) ∧ 160 + 1 = 161 := by decide +kernel
theorem d_M_round_161 : decode c_M_round 161 = .ok (.iastore, 1) ∧ 161 + 1 = 162 := by decide +kernel
theorem d_M_round_162 : decode c_M_round 162 = .ok (.iinc 6 1, 3) ∧ 162 + 3 = 165 := by decide +kernel
theorem d_M_round_165 : decode c_M_round 165 = .ok (.goto (-39), 3) ∧ (165 : Int) + (-39) = (126 : Int) := by decide +kernel
theorem d_M_round_168 : decode c_M_round 168 = .ok (.aload_n 0, 1) ∧ 168 + 1 = 169 := by decide +kernel
theorem d_M_round_169 : decode c_M_round 169 = .ok (.dup, 1) ∧ 169 + 1 = 170 := by decide +kernel
theorem d_M_round_170 : decode c_M_round 170 = .ok (.getfield 428, 3) ∧ 170 + 3 = 173 := by decide +kernel
theorem d_M_round_173 : decode c_M_round 173 = .ok (.iconst 1, 1) ∧ 173 + 1 = 174 := by decide +kernel
theorem d_M_round_174 : decode c_M_round 174 = .ok (.iadd, 1) ∧ 174 + 1 = 175 := by decide +kernel
theorem d_M_round_175 : decode c_M_round 175 = .ok (.putfield 428, 3) ∧ 175 + 3 = 178 := by decide +kernel
theorem d_M_round_178 : decode c_M_round 178 = .ok (.aload_n 0, 1) ∧ 178 + 1 = 179 := by decide +kernel
theorem d_M_round_179 : decode c_M_round 179 = .ok (.aload_n 0, 1) ∧ 179 + 1 = 180 := by decide +kernel
theorem d_M_round_180 : decode c_M_round 180 = .ok (.getfield 428, 3) ∧ 180 + 3 = 183 := by decide +kernel
theorem d_M_round_183 : decode c_M_round 183 = .ok (.iconst 1, 1) ∧ 183 + 1 = 184 := by decide +kernel
theorem d_M_round_184 : decode c_M_round 184 = .ok (.isub, 1) ∧ 184 + 1 = 185 := by decide +kernel
theorem d_M_round_185 : decode c_M_round 185 = .ok (.invokevirtual 294, 3) ∧ 185 + 3 = 188 := by decide +kernel
theorem d_M_round_188 : decode c_M_round 188 = .ok (.ireturn, 1) ∧ 188 + 1 = 189 := by decide +kernel
set_option maxHeartbeats 4000000 in
theorem w_M_round_L126 {Z : Sy} {Γ : Nat → List (Nat × Value) → List Value → St → Prop} {res : (Int32 × St)} {x1 : Int32} {x3 : Int32} {x4 : Int32} (h : IsG YM Z R_M c_M_round 7 3 (some .int) (some (.int res.1)) res.2 Γ) : ∀ (n : Nat) (x6 : Int32) (σ : St), M_round_L126 x1 x3 x4 n x6 σ = some res → Γ 126 [(0, .ref (ya Z 0)), (1, .int x1), (3, .int x3), (4, .int x4), (6, .int x6)] [] σ := by
  intro n
  induction n with
  | zero => intro x6 σ hf; exact absurd hf (by simp [M_round_L126])
  | succ n ih =>
    intro x6 σ hf
    rw [M_round_L126] at hf
    refine r_iload h d_M_round_126 4 rfl ?_
    refine r_iload h d_M_round_128 3 rfl ?_
    refine r_icmp_ge h d_M_round_130 hf (fun hf => ?_) (fun hf => ?_)
    · refine r_aload_n h d_M_round_168 0 rfl rfl ?_
      refine r_dup h d_M_round_169 rfl ?_
      refine r_getI h fd_YM_0_60 cf_M fl_M_428 d_M_round_170 ?_
      refine r_iconst h d_M_round_173 ki_1 ?_
      refine r_iadd h d_M_round_174 ?_
      refine r_putI h fd_YM_0_60 cf_M fl_M_428 ⟨rfl, rfl⟩ d_M_round_175 ?_
      refine r_aload_n h d_M_round_178 0 rfl rfl ?_
      refine r_aload_n h d_M_round_179 0 rfl rfl ?_
      refine r_getIv (v := ((σ.1 0 60) + (1 : Int32))) h fd_YM_0_60 cf_M fl_M_428 d_M_round_180 rfl ?_
      refine r_iconst h d_M_round_183 ki_1 ?_
      refine r_isub h d_M_round_184 ?_
      obtain ⟨q185, e185, hf⟩ := q_bind hf
      refine r_callV (As := [.int (((σ.1 0 60) + (1 : Int32)) - (1 : Int32))]) (rest := []) h sh_YM_0 lk_M_294 vk_M_294 d_M_round_185 (by decide) rfl rfl (Nat.le_of_ble_eq_true rfl) (m_M_refused e185) ?_
      exact r_ireturn h d_M_round_188.1 (q_p1 hf) (q_p2 hf)
    · refine r_aload_n h d_M_round_133 0 rfl rfl ?_
      refine r_getR h fd_YM_0_62 cf_M fl_M_155 d_M_round_134 ?_
      refine r_bipush h d_M_round_137 kb_8 ?_
      refine r_aload_n h d_M_round_139 0 rfl rfl ?_
      refine r_getI h fd_YM_0_60 cf_M fl_M_428 d_M_round_140 ?_
      refine r_imul h d_M_round_143 ?_
      refine r_iload h d_M_round_144 4 rfl ?_
      refine r_iadd h d_M_round_146 ?_
      refine r_aload_n h d_M_round_147 0 rfl rfl ?_
      refine r_getR h fd_YM_0_76 cf_M fl_M_191 d_M_round_148 ?_
      refine r_bipush h d_M_round_151 kb_60 ?_
      refine r_iload_n h d_M_round_153 1 rfl rfl ?_
      refine r_imul h d_M_round_154 ?_
      refine r_iload_n h d_M_round_155 2 rfl rfl ?_
      refine r_iadd h d_M_round_156 ?_
      refine r_iload h d_M_round_157 4 rfl ?_
      refine r_iadd h d_M_round_159 ?_
      refine r_iald h sh_YM_61 d_M_round_160 hf (fun hf => ?_)
      refine r_iast h sh_YM_49 d_M_round_161 hf (fun hf => ?_)
      refine r_iinc (ls' := [(6, .int (x6 + (1 : Int32))), (0, .ref (ya Z 0)), (1, .int x1), (3, .int x3), (4, .int x4)]) h d_M_round_162 4 rfl ki_1 (by decide) rfl ?_
      refine r_goto h d_M_round_165 ?_
      refine r_sub h [1, 2, 3, 4, 0] rfl ?_
      exact ih _ _ hf

set_option maxHeartbeats 4000000 in
theorem w_M_round_L56 {Z : Sy} {Γ : Nat → List (Nat × Value) → List Value → St → Prop} {res : (Int32 × St)} {x1 : Int32} {x3 : Int32} {x4 : Int32} {σ : St} (h : IsG YM Z R_M c_M_round 7 3 (some .int) (some (.int res.1)) res.2 Γ) : ∀ (n : Nat) (x6 : Int32), M_round_L56 x1 x3 x4 σ n x6 = some res → Γ 56 [(0, .ref (ya Z 0)), (1, .int x1), (3, .int x3), (4, .int x4), (6, .int x6)] [] σ := by
  intro n
  induction n with
  | zero => intro x6 hf; exact absurd hf (by simp [M_round_L56])
  | succ n ih =>
    intro x6 hf
    rw [M_round_L56] at hf
    refine r_iload h d_M_round_56 4 rfl ?_
    refine r_iload h d_M_round_58 3 rfl ?_
    refine r_icmp_ge h d_M_round_60 hf (fun hf => ?_) (fun hf => ?_)
    · refine r_aload_n h d_M_round_96 0 rfl rfl ?_
      refine r_getI h fd_YM_0_60 cf_M fl_M_428 d_M_round_97 ?_
      refine r_bipush h d_M_round_100 kb_10 ?_
      refine r_icmp_ne h d_M_round_102 hf (fun hf => ?_) (fun hf => ?_)
      · refine r_aload_n h d_M_round_112 0 rfl rfl ?_
        refine r_getR h fd_YM_0_61 cf_M fl_M_152 d_M_round_113 ?_
        refine r_aload_n h d_M_round_116 0 rfl rfl ?_
        refine r_getI h fd_YM_0_60 cf_M fl_M_428 d_M_round_117 ?_
        refine r_iload h d_M_round_120 3 rfl ?_
        refine r_iast h sh_YM_48 d_M_round_122 hf (fun hf => ?_)
        refine r_iconst h d_M_round_123 ki_0 ?_
        refine r_istore (ls' := [(6, .int (0 : Int32)), (0, .ref (ya Z 0)), (1, .int x1), (3, .int x3), (4, .int x4)]) h d_M_round_124 (by decide) rfl ?_
        refine r_sub h [1, 2, 3, 4, 0] rfl ?_
        exact w_M_round_L126 h _ _ _ hf
      · refine r_aload_n h d_M_round_105 0 rfl rfl ?_
        refine r_bipush h d_M_round_106 kb_m4 ?_
        obtain ⟨q108, e108, hf⟩ := q_bind hf
        refine r_callV (As := [.int (-4 : Int32)]) (rest := []) h sh_YM_0 lk_M_294 vk_M_294 d_M_round_108 (by decide) rfl rfl (Nat.le_of_ble_eq_true rfl) (m_M_refused e108) ?_
        exact r_ireturn h d_M_round_111.1 (q_p1 hf) (q_p2 hf)
    · refine r_aload_n h d_M_round_63 0 rfl rfl ?_
      refine r_aload_n h d_M_round_64 0 rfl rfl ?_
      refine r_getR h fd_YM_0_76 cf_M fl_M_191 d_M_round_65 ?_
      refine r_bipush h d_M_round_68 kb_60 ?_
      refine r_iload_n h d_M_round_70 1 rfl rfl ?_
      refine r_imul h d_M_round_71 ?_
      refine r_iload_n h d_M_round_72 2 rfl rfl ?_
      refine r_iadd h d_M_round_73 ?_
      refine r_iload h d_M_round_74 4 rfl ?_
      refine r_iadd h d_M_round_76 ?_
      refine r_iald h sh_YM_61 d_M_round_77 hf (fun hf => ?_)
      obtain ⟨r78, e78, hf⟩ := q_bind hf
      refine r_callV (As := [.int (σ.1 61 (Int32.toNatClampNeg ((((60 : Int32) * x1) + x3) + x6)))]) (rest := []) h sh_YM_0 lk_M_240 vk_M_240 d_M_round_78 (by decide) rfl rfl (Nat.le_of_ble_eq_true rfl) (m_M_noPlace e78) ?_
      refine r_bif_eq h d_M_round_81 hf (fun hf => ?_) (fun hf => ?_)
      · refine r_iinc (ls' := [(6, .int (x6 + (1 : Int32))), (0, .ref (ya Z 0)), (1, .int x1), (3, .int x3), (4, .int x4)]) h d_M_round_90 4 rfl ki_1 (by decide) rfl ?_
        refine r_goto h d_M_round_93 ?_
        refine r_sub h [1, 2, 3, 4, 0] rfl ?_
        exact ih _ hf
      · refine r_aload_n h d_M_round_84 0 rfl rfl ?_
        refine r_iconst h d_M_round_85 ki_m1 ?_
        obtain ⟨q86, e86, hf⟩ := q_bind hf
        refine r_callV (As := [.int (-1 : Int32)]) (rest := []) h sh_YM_0 lk_M_294 vk_M_294 d_M_round_86 (by decide) rfl rfl (Nat.le_of_ble_eq_true rfl) (m_M_refused e86) ?_
        exact r_ireturn h d_M_round_89.1 (q_p1 hf) (q_p2 hf)

set_option maxHeartbeats 4000000 in
theorem m_M_round {Z : Sy} {σ : St} {res : (Int32 × St)} {x1 : Int32} {x2 : Int32} {x3 : Int32} {x4 : Int32} (hf : M_round x1 x2 x3 x4 σ = some res) : Ct YM Z y_M_round c_M_round 7 (some .int) 3 [.ref (ya Z 0), .int x1, .int x2, .int x3, .int x4] σ (some (.int res.1)) res.2 := by
  refine Ct.of pn_M (Nat.le_of_ble_eq_true rfl) rfl (fun Γ h => ?_)
  have h : IsG YM Z R_M c_M_round 7 3 (some .int) (some (.int res.1)) res.2 Γ := h
  unfold M_round at hf
  refine r_iload_n h d_M_round_0 1 rfl rfl ?_
  obtain ⟨r1, e1, hf⟩ := q_bind hf
  refine r_callS (As := [.int x1]) (rest := []) h lk_M_291 sk_M_291 d_M_round_1 (by decide) rfl rfl (Nat.le_of_ble_eq_true rfl) (m_M_noSheet e1) ?_
  refine r_bif_eq h d_M_round_4 hf (fun hf => ?_) (fun hf => ?_)
  · refine r_aload_n h d_M_round_13 0 rfl rfl ?_
    refine r_iload_n h d_M_round_14 1 rfl rfl ?_
    refine r_iload_n h d_M_round_15 2 rfl rfl ?_
    refine r_iload_n h d_M_round_16 3 rfl rfl ?_
    refine r_iload h d_M_round_17 4 rfl ?_
    refine r_i2l h d_M_round_19 ?_
    obtain ⟨q20, e20, hf⟩ := q_bind hf
    refine r_callV (As := [.int x1, .int x2, .int x3, .long (Int32.toInt64 x4)]) (rest := []) h sh_YM_0 lk_M_298 vk_M_298 d_M_round_20 (by decide) rfl rfl (Nat.le_of_ble_eq_true rfl) (m_M_barred e20) ?_
    refine r_istore (ls' := [(5, .int q20.1), (0, .ref (ya Z 0)), (1, .int x1), (2, .int x2), (3, .int x3), (4, .int x4)]) h d_M_round_23 (by decide) rfl ?_
    refine r_iload h d_M_round_25 0 rfl ?_
    refine r_if_ge h d_M_round_27 hf (fun hf => ?_) (fun hf => ?_)
    · refine r_iload h d_M_round_33 5 rfl ?_
      refine r_i2l h d_M_round_35 ?_
      refine r_lconst h d_M_round_36 kl_1 ?_
      refine r_ldc2 h d_M_round_37 tm_1745 ?_
      obtain ⟨r40, e40, hf⟩ := q_bind hf
      refine r_callS (As := [.long (Int32.toInt64 x4), .long (1 : Int64), .long (8 : Int64)]) (rest := []) h lk_M_201 sk_M_201 d_M_round_40 (by decide) rfl rfl (Nat.le_of_ble_eq_true rfl) (m_M_in e40) ?_
      refine r_bif_ne h d_M_round_43 hf (fun hf => ?_) (fun hf => ?_)
      · refine r_iconst h d_M_round_53 ki_0 ?_
        refine r_istore (ls' := [(6, .int (0 : Int32)), (5, .int q20.1), (0, .ref (ya Z 0)), (1, .int x1), (2, .int x2), (3, .int x3), (4, .int x4)]) h d_M_round_54 (by decide) rfl ?_
        refine r_sub h [2, 3, 5, 6, 0] rfl ?_
        exact w_M_round_L56 h _ _ hf
      · refine r_aload_n h d_M_round_46 1 rfl rfl ?_
        refine r_bipush h d_M_round_47 kb_m2 ?_
        obtain ⟨q49, e49, hf⟩ := q_bind hf
        refine r_callV (As := [.int (-2 : Int32)]) (rest := []) h sh_YM_0 lk_M_294 vk_M_294 d_M_round_49 (by decide) rfl rfl (Nat.le_of_ble_eq_true rfl) (m_M_refused e49) ?_
        exact r_ireturn h d_M_round_52.1 (q_p1 hf) (q_p2 hf)
    · refine r_iload h d_M_round_30 0 rfl ?_
      exact r_ireturn h d_M_round_32.1 (q_p1 hf) (q_p2 hf)
  · refine r_aload_n h d_M_round_7 0 rfl rfl ?_
    refine r_iconst h d_M_round_8 ki_m1 ?_
    obtain ⟨q9, e9, hf⟩ := q_bind hf
    refine r_callV (As := [.int (-1 : Int32)]) (rest := []) h sh_YM_0 lk_M_294 vk_M_294 d_M_round_9 (by decide) rfl rfl (Nat.le_of_ble_eq_true rfl) (m_M_refused e9) ?_
    exact r_ireturn h d_M_round_12.1 (q_p1 hf) (q_p2 hf)

theorem d_M_noRound_0 : decode c_M_noRound 0 = .ok (.iload_n 1, 1) ∧ 0 + 1 = 1 := by decide +kernel
theorem d_M_noRound_1 : decode c_M_noRound 1 = .ok (.i2l, 1) ∧ 1 + 1 = 2 := by decide +kernel
theorem d_M_noRound_2 : decode c_M_noRound 2 = .ok (.lconst 0, 1) ∧ 2 + 1 = 3 := by decide +kernel
theorem d_M_noRound_3 : decode c_M_noRound 3 = .ok (.aload_n 0, 1) ∧ 3 + 1 = 4 := by decide +kernel
theorem d_M_noRound_4 : decode c_M_noRound 4 = .ok (.getfield 428, 3) ∧ 4 + 3 = 7 := by decide +kernel
theorem d_M_noRound_7 : decode c_M_noRound 7 = .ok (.i2l, 1) ∧ 7 + 1 = 8 := by decide +kernel
theorem d_M_noRound_8 : decode c_M_noRound 8 = .ok (.lconst 1, 1) ∧ 8 + 1 = 9 := by decide +kernel
theorem d_M_noRound_9 : decode c_M_noRound 9 = .ok (.lsub, 1) ∧ 9 + 1 = 10 := by decide +kernel
theorem d_M_noRound_10 : decode c_M_noRound 10 = .ok (.invokestatic 201, 3) ∧ 10 + 3 = 13 := by decide +kernel
theorem d_M_noRound_13 : decode c_M_noRound 13 = .ok (.ifCond .ne 7, 3) ∧ 13 + 3 = 16 ∧ ((13 : Nat) : Int) + 7 = ((20 : Nat) : Int) := by decide +kernel
theorem d_M_noRound_16 : decode c_M_noRound 16 = .ok (.iconst 1, 1) ∧ 16 + 1 = 17 := by decide +kernel
theorem d_M_noRound_17 : decode c_M_noRound 17 = .ok (.goto 4, 3) ∧ (17 : Int) + 4 = (21 : Int) := by decide +kernel
theorem d_M_noRound_20 : decode c_M_noRound 20 = .ok (.iconst 0, 1) ∧ 20 + 1 = 21 := by decide +kernel
theorem d_M_noRound_21 : decode c_M_noRound 21 = .ok (.ireturn, 1) ∧ 21 + 1 = 22 := by decide +kernel
set_option maxHeartbeats 4000000 in
theorem m_M_noRound {Z : Sy} {σ : St} {res : Bool} {x1 : Int32} (hf : M_noRound x1 σ = some res) : Ct YM Z y_M_noRound c_M_noRound 2 (some .boolean) 2 [.ref (ya Z 0), .int x1] σ (some (.int (bi res))) σ := by
  refine Ct.of pn_M (Nat.le_of_ble_eq_true rfl) rfl (fun Γ h => ?_)
  have h : IsG YM Z R_M c_M_noRound 2 2 (some .boolean) (some (.int (bi res))) σ Γ := h
  unfold M_noRound at hf
  refine r_iload_n h d_M_noRound_0 1 rfl rfl ?_
  refine r_i2l h d_M_noRound_1 ?_
  refine r_lconst h d_M_noRound_2 kl_0 ?_
  refine r_aload_n h d_M_noRound_3 0 rfl rfl ?_
  refine r_getI h fd_YM_0_60 cf_M fl_M_428 d_M_noRound_4 ?_
  refine r_i2l h d_M_noRound_7 ?_
  refine r_lconst h d_M_noRound_8 kl_1 ?_
  refine r_lsub h d_M_noRound_9 ?_
  obtain ⟨r10, e10, hf⟩ := q_bind hf
  refine r_callS (As := [.long (Int32.toInt64 x1), .long (0 : Int64), .long ((Int32.toInt64 (σ.1 0 60)) - (1 : Int64))]) (rest := []) h lk_M_201 sk_M_201 d_M_noRound_10 (by decide) rfl rfl (Nat.le_of_ble_eq_true rfl) (m_M_in e10) ?_
  refine r_bif_ne h d_M_noRound_13 hf (fun hf => ?_) (fun hf => ?_)
  · refine r_iconst h d_M_noRound_20 ki_0 ?_
    exact r_zreturn h d_M_noRound_21.1 ((show (0 : Int32) = bi false from rfl).trans (congrArg bi (Option.some.inj hf))) rfl
  · refine r_iconst h d_M_noRound_16 ki_1 ?_
    refine r_goto h d_M_noRound_17 ?_
    exact r_zreturn h d_M_noRound_21.1 ((show (1 : Int32) = bi true from rfl).trans (congrArg bi (Option.some.inj hf))) rfl

theorem d_M_right_0 : decode c_M_right 0 = .ok (.aload_n 0, 1) ∧ 0 + 1 = 1 := by decide +kernel
theorem d_M_right_1 : decode c_M_right 1 = .ok (.iload_n 1, 1) ∧ 1 + 1 = 2 := by decide +kernel
theorem d_M_right_2 : decode c_M_right 2 = .ok (.invokevirtual 237, 3) ∧ 2 + 3 = 5 := by decide +kernel
theorem d_M_right_5 : decode c_M_right 5 = .ok (.ifCond .ne 11, 3) ∧ 5 + 3 = 8 ∧ ((5 : Nat) : Int) + 11 = ((16 : Nat) : Int) := by decide +kernel
theorem d_M_right_8 : decode c_M_right 8 = .ok (.aload_n 0, 1) ∧ 8 + 1 = 9 := by decide +kernel
theorem d_M_right_9 : decode c_M_right 9 = .ok (.iload_n 2, 1) ∧ 9 + 1 = 10 := by decide +kernel
theorem d_M_right_10 : decode c_M_right 10 = .ok (.invokevirtual 433, 3) ∧ 10 + 3 = 13 := by decide +kernel
theorem d_M_right_13 : decode c_M_right 13 = .ok (.ifCond .eq 5, 3) ∧ 13 + 3 = 16 ∧ ((13 : Nat) : Int) + 5 = ((18 : Nat) : Int) := by decide +kernel
theorem d_M_right_16 : decode c_M_right 16 = .ok (.iconst (-1), 1) ∧ 16 + 1 = 17 := by decide +kernel
theorem d_M_right_17 : decode c_M_right 17 = .ok (.ireturn, 1) ∧ 17 + 1 = 18 := by decide +kernel
theorem d_M_right_18 : decode c_M_right 18 = .ok (.iload_n 3, 1) ∧ 18 + 1 = 19 := by decide +kernel
theorem d_M_right_19 : decode c_M_right 19 = .ok (.i2l, 1) ∧ 19 + 1 = 20 := by decide +kernel
theorem d_M_right_20 : decode c_M_right 20 = .ok (.lconst 0, 1) ∧ 20 + 1 = 21 := by decide +kernel
theorem d_M_right_21 : decode c_M_right 21 = .ok (.ldc2_w 266, 3) ∧ 21 + 3 = 24 := by decide +kernel
theorem d_M_right_24 : decode c_M_right 24 = .ok (.invokestatic 201, 3) ∧ 24 + 3 = 27 := by decide +kernel
theorem d_M_right_27 : decode c_M_right 27 = .ok (.ifCond .eq 13, 3) ∧ 27 + 3 = 30 ∧ ((27 : Nat) : Int) + 13 = ((40 : Nat) : Int) := by decide +kernel
theorem d_M_right_30 : decode c_M_right 30 = .ok (.iload 4, 2) ∧ 30 + 2 = 32 := by decide +kernel
theorem d_M_right_32 : decode c_M_right 32 = .ok (.iload 5, 2) ∧ 32 + 2 = 34 := by decide +kernel
theorem d_M_right_34 : decode c_M_right 34 = .ok (.invokestatic 243, 3) ∧ 34 + 3 = 37 := by decide +kernel
theorem d_M_right_37 : decode c_M_right 37 = .ok (.ifCond .ne 6, 3) ∧ 37 + 3 = 40 ∧ ((37 : Nat) : Int) + 6 = ((43 : Nat) : Int) := by decide +kernel
theorem d_M_right_40 : decode c_M_right 40 = .ok (.bipush (-2), 2) ∧ 40 + 2 = 42 := by decide +kernel
theorem d_M_right_42 : decode c_M_right 42 = .ok (.ireturn, 1) ∧ 42 + 1 = 43 := by decide +kernel
theorem d_M_right_43 : decode c_M_right 43 = .ok (.aload_n 0, 1) ∧ 43 + 1 = 44 := by decide +kernel
theorem d_M_right_44 : decode c_M_right 44 = .ok (.getfield 436, 3) ∧ 44 + 3 = 47 := by decide +kernel
theorem d_M_right_47 : decode c_M_right 47 = .ok (.bipush 20, 2) ∧ 47 + 2 = 49 := by decide +kernel
theorem d_M_right_49 : decode c_M_right 49 = .ok (.if_icmp .ne 6, 3) ∧ 49 + 3 = 52 ∧ ((49 : Nat) : Int) + 6 = ((55 : Nat) : Int) := by decide +kernel
theorem d_M_right_52 : decode c_M_right 52 = .ok (.bipush (-4), 2) ∧ 52 + 2 = 54 := by decide +kernel
theorem d_M_right_54 : decode c_M_right 54 = .ok (.ireturn, 1) ∧ 54 + 1 = 55 := by decide +kernel
theorem d_M_right_55 : decode c_M_right 55 = .ok (.aload_n 0, 1) ∧ 55 + 1 = 56 := by decide +kernel
theorem d_M_right_56 : decode c_M_right 56 = .ok (.getfield 158, 3) ∧ 56 + 3 = 59 := by decide +kernel
theorem d_M_right_59 : decode c_M_right 59 = .ok (.aload_n 0, 1) ∧ 59 + 1 = 60 := by decide +kernel
theorem d_M_right_60 : decode c_M_right 60 = .ok (.getfield 436, 3) ∧ 60 + 3 = 63 := by decide +kernel
theorem d_M_right_63 : decode c_M_right 63 = .ok (.iload_n 1, 1) ∧ 63 + 1 = 64 := by decide +kernel
theorem d_M_right_64 : decode c_M_right 64 = .ok (.iastore, 1) ∧ 64 + 1 = 65 := by decide +kernel
theorem d_M_right_65 : decode c_M_right 65 = .ok (.aload_n 0, 1) ∧ 65 + 1 = 66 := by decide +kernel
theorem d_M_right_66 : decode c_M_right 66 = .ok (.getfield 161, 3) ∧ 66 + 3 = 69 := by decide +kernel
theorem d_M_right_69 : decode c_M_right 69 = .ok (.aload_n 0, 1) ∧ 69 + 1 = 70 := by decide +kernel
theorem d_M_right_70 : decode c_M_right 70 = .ok (.getfield 436, 3) ∧ 70 + 3 = 73 := by decide +kernel
theorem d_M_right_73 : decode c_M_right 73 = .ok (.iload_n 2, 1) ∧ 73 + 1 = 74 := by decide +kernel
theorem d_M_right_74 : decode c_M_right 74 = .ok (.iastore, 1) ∧ 74 + 1 = 75 := by decide +kernel
theorem d_M_right_75 : decode c_M_right 75 = .ok (.aload_n 0, 1) ∧ 75 + 1 = 76 := by decide +kernel
theorem d_M_right_76 : decode c_M_right 76 = .ok (.getfield 164, 3) ∧ 76 + 3 = 79 := by decide +kernel
theorem d_M_right_79 : decode c_M_right 79 = .ok (.aload_n 0, 1) ∧ 79 + 1 = 80 := by decide +kernel
theorem d_M_right_80 : decode c_M_right 80 = .ok (.getfield 436, 3) ∧ 80 + 3 = 83 := by decide +kernel
theorem d_M_right_83 : decode c_M_right 83 = .ok (.iload 4, 2) ∧ 83 + 2 = 85 := by decide +kernel
theorem d_M_right_85 : decode c_M_right 85 = .ok (.iastore, 1) ∧ 85 + 1 = 86 := by decide +kernel
theorem d_M_right_86 : decode c_M_right 86 = .ok (.aload_n 0, 1) ∧ 86 + 1 = 87 := by decide +kernel
theorem d_M_right_87 : decode c_M_right 87 = .ok (.getfield 167, 3) ∧ 87 + 3 = 90 := by decide +kernel
theorem d_M_right_90 : decode c_M_right 90 = .ok (.aload_n 0, 1) ∧ 90 + 1 = 91 := by decide +kernel
theorem d_M_right_91 : decode c_M_right 91 = .ok (.getfield 436, 3) ∧ 91 + 3 = 94 := by decide +kernel
theorem d_M_right_94 : decode c_M_right 94 = .ok (.iload 5, 2) ∧ 94 + 2 = 96 := by decide +kernel
theorem d_M_right_96 : decode c_M_right 96 = .ok (.iastore, 1) ∧ 96 + 1 = 97 := by decide +kernel
theorem d_M_right_97 : decode c_M_right 97 = .ok (.aload_n 0, 1) ∧ 97 + 1 = 98 := by decide +kernel
theorem d_M_right_98 : decode c_M_right 98 = .ok (.dup, 1) ∧ 98 + 1 = 99 := by decide +kernel
theorem d_M_right_99 : decode c_M_right 99 = .ok (.getfield 436, 3) ∧ 99 + 3 = 102 := by decide +kernel
theorem d_M_right_102 : decode c_M_right 102 = .ok (.iconst 1, 1) ∧ 102 + 1 = 103 := by decide +kernel
theorem d_M_right_103 : decode c_M_right 103 = .ok (.iadd, 1) ∧ 103 + 1 = 104 := by decide +kernel
theorem d_M_right_104 : decode c_M_right 104 = .ok (.putfield 436, 3) ∧ 104 + 3 = 107 := by decide +kernel
theorem d_M_right_107 : decode c_M_right 107 = .ok (.aload_n 0, 1) ∧ 107 + 1 = 108 := by decide +kernel
theorem d_M_right_108 : decode c_M_right 108 = .ok (.getfield 436, 3) ∧ 108 + 3 = 111 := by decide +kernel
theorem d_M_right_111 : decode c_M_right 111 = .ok (.ireturn, 1) ∧ 111 + 1 = 112 := by decide +kernel
set_option maxHeartbeats 4000000 in
theorem m_M_right {Z : Sy} {σ : St} {res : (Int32 × St)} {x1 : Int32} {x2 : Int32} {x3 : Int32} {x4 : Int32} {x5 : Int32} (hf : M_right x1 x2 x3 x4 x5 σ = some res) : Ct YM Z y_M_right c_M_right 6 (some .int) 4 [.ref (ya Z 0), .int x1, .int x2, .int x3, .int x4, .int x5] σ (some (.int res.1)) res.2 := by
  refine Ct.of pn_M (Nat.le_of_ble_eq_true rfl) rfl (fun Γ h => ?_)
  have h : IsG YM Z R_M c_M_right 6 4 (some .int) (some (.int res.1)) res.2 Γ := h
  unfold M_right at hf
  refine r_aload_n h d_M_right_0 0 rfl rfl ?_
  refine r_iload_n h d_M_right_1 1 rfl rfl ?_
  obtain ⟨r2, e2, hf⟩ := q_bind hf
  refine r_callV (As := [.int x1]) (rest := []) h sh_YM_0 lk_M_237 vk_M_237 d_M_right_2 (by decide) rfl rfl (Nat.le_of_ble_eq_true rfl) (m_M_noBand e2) ?_
  refine r_bif_ne h d_M_right_5 hf (fun hf => ?_) (fun hf => ?_)
  · refine r_iconst h d_M_right_16 ki_m1 ?_
    exact r_ireturn h d_M_right_17.1 (q_p1 hf) (q_p2 hf)
  · refine r_aload_n h d_M_right_8 0 rfl rfl ?_
    refine r_iload_n h d_M_right_9 2 rfl rfl ?_
    obtain ⟨r10, e10, hf⟩ := q_bind hf
    refine r_callV (As := [.int x2]) (rest := []) h sh_YM_0 lk_M_433 vk_M_433 d_M_right_10 (by decide) rfl rfl (Nat.le_of_ble_eq_true rfl) (m_M_noRound e10) ?_
    refine r_bif_eq h d_M_right_13 hf (fun hf => ?_) (fun hf => ?_)
    · refine r_iload_n h d_M_right_18 3 rfl rfl ?_
      refine r_i2l h d_M_right_19 ?_
      refine r_lconst h d_M_right_20 kl_0 ?_
      refine r_ldc2 h d_M_right_21 tm_1478 ?_
      obtain ⟨r24, e24, hf⟩ := q_bind hf
      refine r_callS (As := [.long (Int32.toInt64 x3), .long (0 : Int64), .long (2 : Int64)]) (rest := []) h lk_M_201 sk_M_201 d_M_right_24 (by decide) rfl rfl (Nat.le_of_ble_eq_true rfl) (m_M_in e24) ?_
      refine r_bif_eq h d_M_right_27 hf (fun hf => ?_) (fun hf => ?_)
      · refine r_bipush h d_M_right_40 kb_m2 ?_
        exact r_ireturn h d_M_right_42.1 (q_p1 hf) (q_p2 hf)
      · refine r_iload h d_M_right_30 4 rfl ?_
        refine r_iload h d_M_right_32 5 rfl ?_
        obtain ⟨r34, e34, hf⟩ := q_bind hf
        refine r_callS (As := [.int x4, .int x5]) (rest := []) h lk_M_243 sk_M_243 d_M_right_34 (by decide) rfl rfl (Nat.le_of_ble_eq_true rfl) (m_M_areDays e34) ?_
        refine r_bif_ne h d_M_right_37 hf (fun hf => ?_) (fun hf => ?_)
        · refine r_aload_n h d_M_right_43 0 rfl rfl ?_
          refine r_getI h fd_YM_0_63 cf_M fl_M_436 d_M_right_44 ?_
          refine r_bipush h d_M_right_47 kb_20 ?_
          refine r_icmp_ne h d_M_right_49 hf (fun hf => ?_) (fun hf => ?_)
          · refine r_aload_n h d_M_right_55 0 rfl rfl ?_
            refine r_getR h fd_YM_0_64 cf_M fl_M_158 d_M_right_56 ?_
            refine r_aload_n h d_M_right_59 0 rfl rfl ?_
            refine r_getI h fd_YM_0_63 cf_M fl_M_436 d_M_right_60 ?_
            refine r_iload_n h d_M_right_63 1 rfl rfl ?_
            refine r_iast h sh_YM_50 d_M_right_64 hf (fun hf => ?_)
            refine r_aload_n h d_M_right_65 0 rfl rfl ?_
            refine r_getR h fd_YM_0_65 cf_M fl_M_161 d_M_right_66 ?_
            refine r_aload_n h d_M_right_69 0 rfl rfl ?_
            refine r_getIv (v := (σ.1 0 63)) h fd_YM_0_63 cf_M fl_M_436 d_M_right_70 rfl ?_
            refine r_iload_n h d_M_right_73 2 rfl rfl ?_
            refine r_iast h sh_YM_51 d_M_right_74 hf (fun hf => ?_)
            refine r_aload_n h d_M_right_75 0 rfl rfl ?_
            refine r_getR h fd_YM_0_66 cf_M fl_M_164 d_M_right_76 ?_
            refine r_aload_n h d_M_right_79 0 rfl rfl ?_
            refine r_getIv (v := (σ.1 0 63)) h fd_YM_0_63 cf_M fl_M_436 d_M_right_80 rfl ?_
            refine r_iload h d_M_right_83 4 rfl ?_
            refine r_iast h sh_YM_52 d_M_right_85 hf (fun hf => ?_)
            refine r_aload_n h d_M_right_86 0 rfl rfl ?_
            refine r_getR h fd_YM_0_67 cf_M fl_M_167 d_M_right_87 ?_
            refine r_aload_n h d_M_right_90 0 rfl rfl ?_
            refine r_getIv (v := (σ.1 0 63)) h fd_YM_0_63 cf_M fl_M_436 d_M_right_91 rfl ?_
            refine r_iload h d_M_right_94 5 rfl ?_
            refine r_iast h sh_YM_53 d_M_right_96 hf (fun hf => ?_)
            refine r_aload_n h d_M_right_97 0 rfl rfl ?_
            refine r_dup h d_M_right_98 rfl ?_
            refine r_getIv (v := (σ.1 0 63)) h fd_YM_0_63 cf_M fl_M_436 d_M_right_99 rfl ?_
            refine r_iconst h d_M_right_102 ki_1 ?_
            refine r_iadd h d_M_right_103 ?_
            refine r_putI h fd_YM_0_63 cf_M fl_M_436 ⟨rfl, rfl⟩ d_M_right_104 ?_
            refine r_aload_n h d_M_right_107 0 rfl rfl ?_
            refine r_getIv (v := ((σ.1 0 63) + (1 : Int32))) h fd_YM_0_63 cf_M fl_M_436 d_M_right_108 rfl ?_
            exact r_ireturn h d_M_right_111.1 (q_p1 hf) (q_p2 hf)
          · refine r_bipush h d_M_right_52 kb_m4 ?_
            exact r_ireturn h d_M_right_54.1 (q_p1 hf) (q_p2 hf)
        · refine r_bipush h d_M_right_40 kb_m2 ?_
          exact r_ireturn h d_M_right_42.1 (q_p1 hf) (q_p2 hf)
    · refine r_iconst h d_M_right_16 ki_m1 ?_
      exact r_ireturn h d_M_right_17.1 (q_p1 hf) (q_p2 hf)

theorem d_M_holder_0 : decode c_M_holder 0 = .ok (.aload_n 0, 1) ∧ 0 + 1 = 1 := by decide +kernel
theorem d_M_holder_1 : decode c_M_holder 1 = .ok (.iload_n 1, 1) ∧ 1 + 1 = 2 := by decide +kernel
theorem d_M_holder_2 : decode c_M_holder 2 = .ok (.invokevirtual 433, 3) ∧ 2 + 3 = 5 := by decide +kernel
theorem d_M_holder_5 : decode c_M_holder 5 = .ok (.ifCond .eq 5, 3) ∧ 5 + 3 = 8 ∧ ((5 : Nat) : Int) + 5 = ((10 : Nat) : Int) := by decide +kernel
theorem d_M_holder_8 : decode c_M_holder 8 = .ok (.iconst (-1), 1) ∧ 8 + 1 = 9 := by decide +kernel
theorem d_M_holder_9 : decode c_M_holder 9 = .ok (.ireturn, 1) ∧ 9 + 1 = 10 := by decide +kernel
theorem d_M_holder_10 : decode c_M_holder 10 = .ok (.iload_n 2, 1) ∧ 10 + 1 = 11 := by decide +kernel
theorem d_M_holder_11 : decode c_M_holder 11 = .ok (.invokestatic 205, 3) ∧ 11 + 3 = 14 := by decide +kernel
theorem d_M_holder_14 : decode c_M_holder 14 = .ok (.ifCond .ne 6, 3) ∧ 14 + 3 = 17 ∧ ((14 : Nat) : Int) + 6 = ((20 : Nat) : Int) := by decide +kernel
theorem d_M_holder_17 : decode c_M_holder 17 = .ok (.bipush (-2), 2) ∧ 17 + 2 = 19 := by decide +kernel
theorem d_M_holder_19 : decode c_M_holder 19 = .ok (.ireturn, 1) ∧ 19 + 1 = 20 := by decide +kernel
theorem d_M_holder_20 : decode c_M_holder 20 = .ok (.aload_n 0, 1) ∧ 20 + 1 = 21 := by decide +kernel
theorem d_M_holder_21 : decode c_M_holder 21 = .ok (.getfield 436, 3) ∧ 21 + 3 = 24 := by decide +kernel
theorem d_M_holder_24 : decode c_M_holder 24 = .ok (.iconst 1, 1) ∧ 24 + 1 = 25 := by decide +kernel
theorem d_M_holder_25 : decode c_M_holder 25 = .ok (.isub, 1) ∧ 25 + 1 = 26 := by decide +kernel
theorem d_M_holder_26 : decode c_M_holder 26 = .ok (.istore_n 3, 1) ∧ 26 + 1 = 27 := by decide +kernel
theorem d_M_holder_27 : decode c_M_holder 27 = .ok (.iload_n 3, 1) ∧ 27 + 1 = 28 := by decide +kernel
theorem d_M_holder_28 : decode c_M_holder 28 = .ok (.ifCond .lt 48, 3) ∧ 28 + 3 = 31 ∧ ((28 : Nat) : Int) + 48 = ((76 : Nat) : Int) := by decide +kernel
theorem d_M_holder_31 : decode c_M_holder 31 = .ok (.aload_n 0, 1) ∧ 31 + 1 = 32 := by decide +kernel
theorem d_M_holder_32 : decode c_M_holder 32 = .ok (.getfield 161, 3) ∧ 32 + 3 = 35 := by decide +kernel
theorem d_M_holder_35 : decode c_M_holder 35 = .ok (.iload_n 3, 1) ∧ 35 + 1 = 36 := by decide +kernel
theorem d_M_holder_36 : decode c_M_holder 36 = .ok (.iaload, 1) ∧ 36 + 1 = 37 := by decide +kernel
theorem d_M_holder_37 : decode c_M_holder 37 = .ok (.iload_n 1, 1) ∧ 37 + 1 = 38 := by decide +kernel
theorem d_M_holder_38 : decode c_M_holder 38 = .ok (.if_icmp .ne 32, 3) ∧ 38 + 3 = 41 ∧ ((38 : Nat) : Int) + 32 = ((70 : Nat) : Int) := by decide +kernel
theorem d_M_holder_41 : decode c_M_holder 41 = .ok (.iload_n 2, 1) ∧ 41 + 1 = 42 := by decide +kernel
theorem d_M_holder_42 : decode c_M_holder 42 = .ok (.i2l, 1) ∧ 42 + 1 = 43 := by decide +kernel
theorem d_M_holder_43 : decode c_M_holder 43 = .ok (.aload_n 0, 1) ∧ 43 + 1 = 44 := by decide +kernel
theorem d_M_holder_44 : decode c_M_holder 44 = .ok (.getfield 164, 3) ∧ 44 + 3 = 47 := by decide +kernel
theorem d_M_holder_47 : decode c_M_holder 47 = .ok (.iload_n 3, 1) ∧ 47 + 1 = 48 := by decide +kernel
theorem d_M_holder_48 : decode c_M_holder 48 = .ok (.iaload, 1) ∧ 48 + 1 = 49 := by decide +kernel
theorem d_M_holder_49 : decode c_M_holder 49 = .ok (.i2l, 1) ∧ 49 + 1 = 50 := by decide +kernel
theorem d_M_holder_50 : decode c_M_holder 50 = .ok (.aload_n 0, 1) ∧ 50 + 1 = 51 := by decide +kernel
theorem d_M_holder_51 : decode c_M_holder 51 = .ok (.getfield 167, 3) ∧ 51 + 3 = 54 := by decide +kernel
theorem d_M_holder_54 : decode c_M_holder 54 = .ok (.iload_n 3, 1) ∧ 54 + 1 = 55 := by decide +kernel
theorem d_M_holder_55 : decode c_M_holder 55 = .ok (.iaload, 1) ∧ 55 + 1 = 56 := by decide +kernel
theorem d_M_holder_56 : decode c_M_holder 56 = .ok (.i2l, 1) ∧ 56 + 1 = 57 := by decide +kernel
theorem d_M_holder_57 : decode c_M_holder 57 = .ok (.invokestatic 201, 3) ∧ 57 + 3 = 60 := by decide +kernel
theorem d_M_holder_60 : decode c_M_holder 60 = .ok (.ifCond .eq 10, 3) ∧ 60 + 3 = 63 ∧ ((60 : Nat) : Int) + 10 = ((70 : Nat) : Int) := by decide +kernel
theorem d_M_holder_63 : decode c_M_holder 63 = .ok (.aload_n 0, 1) ∧ 63 + 1 = 64 := by decide +kernel
theorem d_M_holder_64 : decode c_M_holder 64 = .ok (.getfield 158, 3) ∧ 64 + 3 = 67 := by decide +kernel
theorem d_M_holder_67 : decode c_M_holder 67 = .ok (.iload_n 3, 1) ∧ 67 + 1 = 68 := by decide +kernel
theorem d_M_holder_68 : decode c_M_holder 68 = .ok (.iaload, 1) ∧ 68 + 1 = 69 := by decide +kernel
theorem d_M_holder_69 : decode c_M_holder 69 = .ok (.ireturn, 1) ∧ 69 + 1 = 70 := by decide +kernel
theorem d_M_holder_70 : decode c_M_holder 70 = .ok (.iinc 3 (-1), 3) ∧ 70 + 3 = 73 := by decide +kernel
theorem d_M_holder_73 : decode c_M_holder 73 = .ok (.goto (-46), 3) ∧ (73 : Int) + (-46) = (27 : Int) := by decide +kernel
theorem d_M_holder_76 : decode c_M_holder 76 = .ok (.bipush (-9), 2) ∧ 76 + 2 = 78 := by decide +kernel
theorem d_M_holder_78 : decode c_M_holder 78 = .ok (.ireturn, 1) ∧ 78 + 1 = 79 := by decide +kernel
set_option maxHeartbeats 4000000 in
theorem w_M_holder_L27 {Z : Sy} {Γ : Nat → List (Nat × Value) → List Value → St → Prop} {res : Int32} {x1 : Int32} {x2 : Int32} {σ : St} (h : IsG YM Z R_M c_M_holder 4 3 (some .int) (some (.int res)) σ Γ) : ∀ (n : Nat) (x3 : Int32), M_holder_L27 x1 x2 σ n x3 = some res → Γ 27 [(0, .ref (ya Z 0)), (1, .int x1), (2, .int x2), (3, .int x3)] [] σ := by
  intro n
  induction n with
  | zero => intro x3 hf; exact absurd hf (by simp [M_holder_L27])
  | succ n ih =>
    intro x3 hf
    rw [M_holder_L27] at hf
    refine r_iload_n h d_M_holder_27 3 rfl rfl ?_
    refine r_if_lt h d_M_holder_28 hf (fun hf => ?_) (fun hf => ?_)
    · refine r_bipush h d_M_holder_76 kb_m9 ?_
      exact r_ireturn h d_M_holder_78.1 (Option.some.inj hf) rfl
    · refine r_aload_n h d_M_holder_31 0 rfl rfl ?_
      refine r_getR h fd_YM_0_65 cf_M fl_M_161 d_M_holder_32 ?_
      refine r_iload_n h d_M_holder_35 3 rfl rfl ?_
      refine r_iald h sh_YM_51 d_M_holder_36 hf (fun hf => ?_)
      refine r_iload_n h d_M_holder_37 1 rfl rfl ?_
      refine r_icmp_ne h d_M_holder_38 hf (fun hf => ?_) (fun hf => ?_)
      · refine r_iinc (ls' := [(3, .int (x3 + (-1 : Int32))), (0, .ref (ya Z 0)), (1, .int x1), (2, .int x2)]) h d_M_holder_70 3 rfl ki_m1 (by decide) rfl ?_
        refine r_goto h d_M_holder_73 ?_
        refine r_sub h [1, 2, 3, 0] rfl ?_
        exact ih _ hf
      · refine r_iload_n h d_M_holder_41 2 rfl rfl ?_
        refine r_i2l h d_M_holder_42 ?_
        refine r_aload_n h d_M_holder_43 0 rfl rfl ?_
        refine r_getR h fd_YM_0_66 cf_M fl_M_164 d_M_holder_44 ?_
        refine r_iload_n h d_M_holder_47 3 rfl rfl ?_
        refine r_iald h sh_YM_52 d_M_holder_48 hf (fun hf => ?_)
        refine r_i2l h d_M_holder_49 ?_
        refine r_aload_n h d_M_holder_50 0 rfl rfl ?_
        refine r_getR h fd_YM_0_67 cf_M fl_M_167 d_M_holder_51 ?_
        refine r_iload_n h d_M_holder_54 3 rfl rfl ?_
        refine r_iald h sh_YM_53 d_M_holder_55 hf (fun hf => ?_)
        refine r_i2l h d_M_holder_56 ?_
        obtain ⟨r57, e57, hf⟩ := q_bind hf
        refine r_callS (As := [.long (Int32.toInt64 x2), .long (Int32.toInt64 (σ.1 52 (Int32.toNatClampNeg x3))), .long (Int32.toInt64 (σ.1 53 (Int32.toNatClampNeg x3)))]) (rest := []) h lk_M_201 sk_M_201 d_M_holder_57 (by decide) rfl rfl (Nat.le_of_ble_eq_true rfl) (m_M_in e57) ?_
        refine r_bif_eq h d_M_holder_60 hf (fun hf => ?_) (fun hf => ?_)
        · refine r_iinc (ls' := [(3, .int (x3 + (-1 : Int32))), (0, .ref (ya Z 0)), (1, .int x1), (2, .int x2)]) h d_M_holder_70 3 rfl ki_m1 (by decide) rfl ?_
          refine r_goto h d_M_holder_73 ?_
          refine r_sub h [1, 2, 3, 0] rfl ?_
          exact ih _ hf
        · refine r_aload_n h d_M_holder_63 0 rfl rfl ?_
          refine r_getR h fd_YM_0_64 cf_M fl_M_158 d_M_holder_64 ?_
          refine r_iload_n h d_M_holder_67 3 rfl rfl ?_
          refine r_iald h sh_YM_50 d_M_holder_68 hf (fun hf => ?_)
          exact r_ireturn h d_M_holder_69.1 (Option.some.inj hf) rfl

set_option maxHeartbeats 4000000 in
theorem m_M_holder {Z : Sy} {σ : St} {res : Int32} {x1 : Int32} {x2 : Int32} (hf : M_holder x1 x2 σ = some res) : Ct YM Z y_M_holder c_M_holder 4 (some .int) 3 [.ref (ya Z 0), .int x1, .int x2] σ (some (.int res)) σ := by
  refine Ct.of pn_M (Nat.le_of_ble_eq_true rfl) rfl (fun Γ h => ?_)
  have h : IsG YM Z R_M c_M_holder 4 3 (some .int) (some (.int res)) σ Γ := h
  unfold M_holder at hf
  refine r_aload_n h d_M_holder_0 0 rfl rfl ?_
  refine r_iload_n h d_M_holder_1 1 rfl rfl ?_
  obtain ⟨r2, e2, hf⟩ := q_bind hf
  refine r_callV (As := [.int x1]) (rest := []) h sh_YM_0 lk_M_433 vk_M_433 d_M_holder_2 (by decide) rfl rfl (Nat.le_of_ble_eq_true rfl) (m_M_noRound e2) ?_
  refine r_bif_eq h d_M_holder_5 hf (fun hf => ?_) (fun hf => ?_)
  · refine r_iload_n h d_M_holder_10 2 rfl rfl ?_
    obtain ⟨r11, e11, hf⟩ := q_bind hf
    refine r_callS (As := [.int x2]) (rest := []) h lk_M_205 sk_M_205 d_M_holder_11 (by decide) rfl rfl (Nat.le_of_ble_eq_true rfl) (m_M_isDay e11) ?_
    refine r_bif_ne h d_M_holder_14 hf (fun hf => ?_) (fun hf => ?_)
    · refine r_aload_n h d_M_holder_20 0 rfl rfl ?_
      refine r_getI h fd_YM_0_63 cf_M fl_M_436 d_M_holder_21 ?_
      refine r_iconst h d_M_holder_24 ki_1 ?_
      refine r_isub h d_M_holder_25 ?_
      refine r_istore_n (ls' := [(3, .int ((σ.1 0 63) - (1 : Int32))), (0, .ref (ya Z 0)), (1, .int x1), (2, .int x2)]) h d_M_holder_26 rfl (by decide) rfl ?_
      refine r_sub h [1, 2, 3, 0] rfl ?_
      exact w_M_holder_L27 h _ _ hf
    · refine r_bipush h d_M_holder_17 kb_m2 ?_
      exact r_ireturn h d_M_holder_19.1 (Option.some.inj hf) rfl
  · refine r_iconst h d_M_holder_8 ki_m1 ?_
    exact r_ireturn h d_M_holder_9.1 (Option.some.inj hf) rfl

theorem d_M_two_0 : decode c_M_two 0 = .ok (.aload_n 0, 1) ∧ 0 + 1 = 1 := by decide +kernel
theorem d_M_two_1 : decode c_M_two 1 = .ok (.iload_n 1, 1) ∧ 1 + 1 = 2 := by decide +kernel
theorem d_M_two_2 : decode c_M_two 2 = .ok (.invokevirtual 433, 3) ∧ 2 + 3 = 5 := by decide +kernel
theorem d_M_two_5 : decode c_M_two 5 = .ok (.ifCond .eq 5, 3) ∧ 5 + 3 = 8 ∧ ((5 : Nat) : Int) + 5 = ((10 : Nat) : Int) := by decide +kernel
theorem d_M_two_8 : decode c_M_two 8 = .ok (.iconst (-1), 1) ∧ 8 + 1 = 9 := by decide +kernel
theorem d_M_two_9 : decode c_M_two 9 = .ok (.ireturn, 1) ∧ 9 + 1 = 10 := by decide +kernel
theorem d_M_two_10 : decode c_M_two 10 = .ok (.iconst 0, 1) ∧ 10 + 1 = 11 := by decide +kernel
theorem d_M_two_11 : decode c_M_two 11 = .ok (.istore_n 2, 1) ∧ 11 + 1 = 12 := by decide +kernel
theorem d_M_two_12 : decode c_M_two 12 = .ok (.iconst 0, 1) ∧ 12 + 1 = 13 := by decide +kernel
theorem d_M_two_13 : decode c_M_two 13 = .ok (.istore_n 3, 1) ∧ 13 + 1 = 14 := by decide +kernel
theorem d_M_two_14 : decode c_M_two 14 = .ok (.iload_n 3, 1) ∧ 14 + 1 = 15 := by decide +kernel
theorem d_M_two_15 : decode c_M_two 15 = .ok (.sipush 9999, 3) ∧ 15 + 3 = 18 := by decide +kernel
theorem d_M_two_18 : decode c_M_two 18 = .ok (.if_icmp .gt 120, 3) ∧ 18 + 3 = 21 ∧ ((18 : Nat) : Int) + 120 = ((138 : Nat) : Int) := by decide +kernel
theorem d_M_two_21 : decode c_M_two 21 = .ok (.bipush (-9), 2) ∧ 21 + 2 = 23 := by decide +kernel
theorem d_M_two_23 : decode c_M_two 23 = .ok (.istore 4, 2) ∧ 23 + 2 = 25 := by decide +kernel
theorem d_M_two_25 : decode c_M_two 25 = .ok (.iconst 0, 1) ∧ 25 + 1 = 26 := by decide +kernel
theorem d_M_two_26 : decode c_M_two 26 = .ok (.istore 5, 2) ∧ 26 + 2 = 28 := by decide +kernel
theorem d_M_two_28 : decode c_M_two 28 = .ok (.iconst 0, 1) ∧ 28 + 1 = 29 := by decide +kernel
theorem d_M_two_29 : decode c_M_two 29 = .ok (.istore 6, 2) ∧ 29 + 2 = 31 := by decide +kernel
theorem d_M_two_31 : decode c_M_two 31 = .ok (.iload 6, 2) ∧ 31 + 2 = 33 := by decide +kernel
theorem d_M_two_33 : decode c_M_two 33 = .ok (.aload_n 0, 1) ∧ 33 + 1 = 34 := by decide +kernel
theorem d_M_two_34 : decode c_M_two 34 = .ok (.getfield 436, 3) ∧ 34 + 3 = 37 := by decide +kernel
theorem d_M_two_37 : decode c_M_two 37 = .ok (.if_icmp .ge 82, 3) ∧ 37 + 3 = 40 ∧ ((37 : Nat) : Int) + 82 = ((119 : Nat) : Int) := by decide +kernel
theorem d_M_two_40 : decode c_M_two 40 = .ok (.aload_n 0, 1) ∧ 40 + 1 = 41 := by decide +kernel
theorem d_M_two_41 : decode c_M_two 41 = .ok (.getfield 161, 3) ∧ 41 + 3 = 44 := by decide +kernel
theorem d_M_two_44 : decode c_M_two 44 = .ok (.iload 6, 2) ∧ 44 + 2 = 46 := by decide +kernel
theorem d_M_two_46 : decode c_M_two 46 = .ok (.iaload, 1) ∧ 46 + 1 = 47 := by decide +kernel
theorem d_M_two_47 : decode c_M_two 47 = .ok (.iload_n 1, 1) ∧ 47 + 1 = 48 := by decide +kernel
theorem d_M_two_48 : decode c_M_two 48 = .ok (.if_icmp .ne 65, 3) ∧ 48 + 3 = 51 ∧ ((48 : Nat) : Int) + 65 = ((113 : Nat) : Int) := by decide +kernel
theorem d_M_two_51 : decode c_M_two 51 = .ok (.iload_n 3, 1) ∧ 51 + 1 = 52 := by decide +kernel
theorem d_M_two_52 : decode c_M_two 52 = .ok (.i2l, 1) ∧ 52 + 1 = 53 := by decide +kernel
theorem d_M_two_53 : decode c_M_two 53 = .ok (.aload_n 0, 1) ∧ 53 + 1 = 54 := by decide +kernel
theorem d_M_two_54 : decode c_M_two 54 = .ok (.getfield 164, 3) ∧ 54 + 3 = 57 := by decide +kernel
theorem d_M_two_57 : decode c_M_two 57 = .ok (.iload 6, 2) ∧ 57 + 2 = 59 := by decide +kernel
theorem d_M_two_59 : decode c_M_two 59 = .ok (.iaload, 1) ∧ 59 + 1 = 60 := by decide +kernel
theorem d_M_two_60 : decode c_M_two 60 = .ok (.i2l, 1) ∧ 60 + 1 = 61 := by decide +kernel
theorem d_M_two_61 : decode c_M_two 61 = .ok (.aload_n 0, 1) ∧ 61 + 1 = 62 := by decide +kernel
theorem d_M_two_62 : decode c_M_two 62 = .ok (.getfield 167, 3) ∧ 62 + 3 = 65 := by decide +kernel
theorem d_M_two_65 : decode c_M_two 65 = .ok (.iload 6, 2) ∧ 65 + 2 = 67 := by decide +kernel
theorem d_M_two_67 : decode c_M_two 67 = .ok (.iaload, 1) ∧ 67 + 1 = 68 := by decide +kernel
theorem d_M_two_68 : decode c_M_two 68 = .ok (.i2l, 1) ∧ 68 + 1 = 69 := by decide +kernel
theorem d_M_two_69 : decode c_M_two 69 = .ok (.invokestatic 201, 3) ∧ 69 + 3 = 72 := by decide +kernel
theorem d_M_two_72 : decode c_M_two 72 = .ok (.ifCond .eq 41, 3) ∧ 72 + 3 = 75 ∧ ((72 : Nat) : Int) + 41 = ((113 : Nat) : Int) := by decide +kernel
theorem d_M_two_75 : decode c_M_two 75 = .ok (.iload 5, 2) ∧ 75 + 2 = 77 := by decide +kernel
theorem d_M_two_77 : decode c_M_two 77 = .ok (.ifCond .ne 20, 3) ∧ 77 + 3 = 80 ∧ ((77 : Nat) : Int) + 20 = ((97 : Nat) : Int) := by decide +kernel
theorem d_M_two_80 : decode c_M_two 80 = .ok (.iload 4, 2) ∧ 80 + 2 = 82 := by decide +kernel
theorem d_M_two_82 : decode c_M_two 82 = .ok (.ifCond .lt 19, 3) ∧ 82 + 3 = 85 ∧ ((82 : Nat) : Int) + 19 = ((101 : Nat) : Int) := by decide +kernel
theorem d_M_two_85 : decode c_M_two 85 = .ok (.iload 4, 2) ∧ 85 + 2 = 87 := by decide +kernel
theorem d_M_two_87 : decode c_M_two 87 = .ok (.aload_n 0, 1) ∧ 87 + 1 = 88 := by decide +kernel
theorem d_M_two_88 : decode c_M_two 88 = .ok (.getfield 158, 3) ∧ 88 + 3 = 91 := by decide +kernel
theorem d_M_two_91 : decode c_M_two 91 = .ok (.iload 6, 2) ∧ 91 + 2 = 93 := by decide +kernel
theorem d_M_two_93 : decode c_M_two 93 = .ok (.iaload, 1) ∧ 93 + 1 = 94 := by decide +kernel
theorem d_M_two_94 : decode c_M_two 94 = .ok (.if_icmp .eq 7, 3) ∧ 94 + 3 = 97 ∧ ((94 : Nat) : Int) + 7 = ((101 : Nat) : Int) := by decide +kernel
theorem d_M_two_97 : decode c_M_two 97 = .ok (.iconst 1, 1) ∧ 97 + 1 = 98 := by decide +kernel
theorem d_M_two_98 : decode c_M_two 98 = .ok (.goto 4, 3) ∧ (98 : Int) + 4 = (102 : Int) := by decide +kernel
theorem d_M_two_101 : decode c_M_two 101 = .ok (.iconst 0, 1) ∧ 101 + 1 = 102 := by decide +kernel
theorem d_M_two_102 : decode c_M_two 102 = .ok (.istore 5, 2) ∧ 102 + 2 = 104 := by decide +kernel
theorem d_M_two_104 : decode c_M_two 104 = .ok (.aload_n 0, 1) ∧ 104 + 1 = 105 := by decide +kernel
theorem d_M_two_105 : decode c_M_two 105 = .ok (.getfield 158, 3) ∧ 105 + 3 = 108 := by decide +kernel
theorem d_M_two_108 : decode c_M_two 108 = .ok (.iload 6, 2) ∧ 108 + 2 = 110 := by decide +kernel
theorem d_M_two_110 : decode c_M_two 110 = .ok (.iaload, 1) ∧ 110 + 1 = 111 := by decide +kernel
theorem d_M_two_111 : decode c_M_two 111 = .ok (.istore 4, 2) ∧ 111 + 2 = 113 := by decide +kernel
theorem d_M_two_113 : decode c_M_two 113 = .ok (.iinc 6 1, 3) ∧ 113 + 3 = 116 := by decide +kernel
theorem d_M_two_116 : decode c_M_two 116 = .ok (.goto (-85), 3) ∧ (116 : Int) + (-85) = (31 : Int) := by decide +kernel
theorem d_M_two_119 : decode c_M_two 119 = .ok (.iload_n 2, 1) ∧ 119 + 1 = 120 := by decide +kernel
theorem d_M_two_120 : decode c_M_two 120 = .ok (.iload 5, 2) ∧ 120 + 2 = 122 := by decide +kernel
theorem d_M_two_122 : decode c_M_two 122 = .ok (.ifCond .eq 7, 3) ∧ 122 + 3 = 125 ∧ ((122 : Nat) : Int) + 7 = ((129 : Nat) : Int) := by decide +kernel
theorem d_M_two_125 : decode c_M_two 125 = .ok (.iconst 1, 1) ∧ 125 + 1 = 126 := by decide +kernel
theorem d_M_two_126 : decode c_M_two 126 = .ok (.goto 4, 3) ∧ (126 : Int) + 4 = (130 : Int) := by decide +kernel
theorem d_M_two_129 : decode c_M_two 129 = .ok (.iconst 0, 1) ∧ 129 + 1 = 130 := by decide +kernel
theorem d_M_two_130 : decode c_M_two 130 = .ok (.iadd, 1) ∧ 130 + 1 = 131 := by decide +kernel
theorem d_M_two_131 : decode c_M_two 131 = .ok (.istore_n 2, 1) ∧ 131 + 1 = 132 := by decide +kernel
theorem d_M_two_132 : decode c_M_two 132 = .ok (.iinc 3 1, 3) ∧ 132 + 3 = 135 := by decide +kernel
theorem d_M_two_135 : decode c_M_two 135 = .ok (.goto (-121), 3) ∧ (135 : Int) + (-121) = (14 : Int) := by decide +kernel
theorem d_M_two_138 : decode c_M_two 138 = .ok (.iload_n 2, 1) ∧ 138 + 1 = 139 := by decide +kernel
theorem d_M_two_139 : decode c_M_two 139 = .ok (.ireturn, 1) ∧ 139 + 1 = 140 := by decide +kernel
set_option maxHeartbeats 4000000 in
theorem w_M_two_L31 {Z : Sy} {Γ : Nat → List (Nat × Value) → List Value → St → Prop} {res : Int32} {x1 : Int32} {x2 : Int32} {x3 : Int32} {σ : St} {k14 : Int32 → Int32 → Option Int32} (h : IsG YM Z R_M c_M_two 7 3 (some .int) (some (.int res)) σ Γ) (hk14 : ∀ (x2 : Int32) (x3 : Int32), k14 x2 x3 = some res → Γ 14 [(0, .ref (ya Z 0)), (1, .int x1), (2, .int x2), (3, .int x3)] [] σ) : ∀ (n : Nat) (x4 : Int32) (x5 : Int32) (x6 : Int32), M_two_L31 x1 x2 x3 σ k14 n x4 x5 x6 = some res → Γ 31 [(0, .ref (ya Z 0)), (1, .int x1), (2, .int x2), (3, .int x3), (4, .int x4), (5, .int x5), (6, .int x6)] [] σ := by
  intro n
  induction n with
  | zero => intro x4 x5 x6 hf; exact absurd hf (by simp [M_two_L31])
  | succ n ih =>
    intro x4 x5 x6 hf
    rw [M_two_L31] at hf
    refine r_iload h d_M_two_31 6 rfl ?_
    refine r_aload_n h d_M_two_33 0 rfl rfl ?_
    refine r_getI h fd_YM_0_63 cf_M fl_M_436 d_M_two_34 ?_
    refine r_icmp_ge h d_M_two_37 hf (fun hf => ?_) (fun hf => ?_)
    · refine r_iload_n h d_M_two_119 2 rfl rfl ?_
      refine r_iload h d_M_two_120 5 rfl ?_
      refine r_if_eq h d_M_two_122 hf (fun hf => ?_) (fun hf => ?_)
      · refine r_iconst h d_M_two_129 ki_0 ?_
        refine r_iadd h d_M_two_130 ?_
        refine r_istore_n (ls' := [(2, .int (x2 + (0 : Int32))), (0, .ref (ya Z 0)), (1, .int x1), (3, .int x3), (4, .int x4), (5, .int x5), (6, .int x6)]) h d_M_two_131 rfl (by decide) rfl ?_
        refine r_iinc (ls' := [(3, .int (x3 + (1 : Int32))), (2, .int (x2 + (0 : Int32))), (0, .ref (ya Z 0)), (1, .int x1), (4, .int x4), (5, .int x5), (6, .int x6)]) h d_M_two_132 3 rfl ki_1 (by decide) rfl ?_
        refine r_goto h d_M_two_135 ?_
        refine r_sub h [2, 3, 1, 0] rfl ?_
        exact hk14 _ _ hf
      · refine r_iconst h d_M_two_125 ki_1 ?_
        refine r_goto h d_M_two_126 ?_
        refine r_iadd h d_M_two_130 ?_
        refine r_istore_n (ls' := [(2, .int (x2 + (1 : Int32))), (0, .ref (ya Z 0)), (1, .int x1), (3, .int x3), (4, .int x4), (5, .int x5), (6, .int x6)]) h d_M_two_131 rfl (by decide) rfl ?_
        refine r_iinc (ls' := [(3, .int (x3 + (1 : Int32))), (2, .int (x2 + (1 : Int32))), (0, .ref (ya Z 0)), (1, .int x1), (4, .int x4), (5, .int x5), (6, .int x6)]) h d_M_two_132 3 rfl ki_1 (by decide) rfl ?_
        refine r_goto h d_M_two_135 ?_
        refine r_sub h [2, 3, 1, 0] rfl ?_
        exact hk14 _ _ hf
    · refine r_aload_n h d_M_two_40 0 rfl rfl ?_
      refine r_getR h fd_YM_0_65 cf_M fl_M_161 d_M_two_41 ?_
      refine r_iload h d_M_two_44 6 rfl ?_
      refine r_iald h sh_YM_51 d_M_two_46 hf (fun hf => ?_)
      refine r_iload_n h d_M_two_47 1 rfl rfl ?_
      refine r_icmp_ne h d_M_two_48 hf (fun hf => ?_) (fun hf => ?_)
      · refine r_iinc (ls' := [(6, .int (x6 + (1 : Int32))), (0, .ref (ya Z 0)), (1, .int x1), (2, .int x2), (3, .int x3), (4, .int x4), (5, .int x5)]) h d_M_two_113 6 rfl ki_1 (by decide) rfl ?_
        refine r_goto h d_M_two_116 ?_
        refine r_sub h [1, 2, 3, 4, 5, 6, 0] rfl ?_
        exact ih _ _ _ hf
      · refine r_iload_n h d_M_two_51 3 rfl rfl ?_
        refine r_i2l h d_M_two_52 ?_
        refine r_aload_n h d_M_two_53 0 rfl rfl ?_
        refine r_getR h fd_YM_0_66 cf_M fl_M_164 d_M_two_54 ?_
        refine r_iload h d_M_two_57 6 rfl ?_
        refine r_iald h sh_YM_52 d_M_two_59 hf (fun hf => ?_)
        refine r_i2l h d_M_two_60 ?_
        refine r_aload_n h d_M_two_61 0 rfl rfl ?_
        refine r_getR h fd_YM_0_67 cf_M fl_M_167 d_M_two_62 ?_
        refine r_iload h d_M_two_65 6 rfl ?_
        refine r_iald h sh_YM_53 d_M_two_67 hf (fun hf => ?_)
        refine r_i2l h d_M_two_68 ?_
        obtain ⟨r69, e69, hf⟩ := q_bind hf
        refine r_callS (As := [.long (Int32.toInt64 x3), .long (Int32.toInt64 (σ.1 52 (Int32.toNatClampNeg x6))), .long (Int32.toInt64 (σ.1 53 (Int32.toNatClampNeg x6)))]) (rest := []) h lk_M_201 sk_M_201 d_M_two_69 (by decide) rfl rfl (Nat.le_of_ble_eq_true rfl) (m_M_in e69) ?_
        refine r_bif_eq h d_M_two_72 hf (fun hf => ?_) (fun hf => ?_)
        · refine r_iinc (ls' := [(6, .int (x6 + (1 : Int32))), (0, .ref (ya Z 0)), (1, .int x1), (2, .int x2), (3, .int x3), (4, .int x4), (5, .int x5)]) h d_M_two_113 6 rfl ki_1 (by decide) rfl ?_
          refine r_goto h d_M_two_116 ?_
          refine r_sub h [1, 2, 3, 4, 5, 6, 0] rfl ?_
          exact ih _ _ _ hf
        · refine r_iload h d_M_two_75 5 rfl ?_
          refine r_if_ne h d_M_two_77 hf (fun hf => ?_) (fun hf => ?_)
          · refine r_iconst h d_M_two_97 ki_1 ?_
            refine r_goto h d_M_two_98 ?_
            refine r_istore (ls' := [(5, .int (1 : Int32)), (0, .ref (ya Z 0)), (1, .int x1), (2, .int x2), (3, .int x3), (4, .int x4), (6, .int x6)]) h d_M_two_102 (by decide) rfl ?_
            refine r_aload_n h d_M_two_104 1 rfl rfl ?_
            refine r_getR h fd_YM_0_64 cf_M fl_M_158 d_M_two_105 ?_
            refine r_iload h d_M_two_108 6 rfl ?_
            refine r_iald h sh_YM_50 d_M_two_110 hf (fun hf => ?_)
            refine r_istore (ls' := [(4, .int (σ.1 50 (Int32.toNatClampNeg x6))), (5, .int (1 : Int32)), (0, .ref (ya Z 0)), (1, .int x1), (2, .int x2), (3, .int x3), (6, .int x6)]) h d_M_two_111 (by decide) rfl ?_
            refine r_iinc (ls' := [(6, .int (x6 + (1 : Int32))), (4, .int (σ.1 50 (Int32.toNatClampNeg x6))), (5, .int (1 : Int32)), (0, .ref (ya Z 0)), (1, .int x1), (2, .int x2), (3, .int x3)]) h d_M_two_113 6 rfl ki_1 (by decide) rfl ?_
            refine r_goto h d_M_two_116 ?_
            refine r_sub h [3, 4, 5, 6, 1, 2, 0] rfl ?_
            exact ih _ _ _ hf
          · refine r_iload h d_M_two_80 4 rfl ?_
            refine r_if_lt h d_M_two_82 hf (fun hf => ?_) (fun hf => ?_)
            · refine r_iconst h d_M_two_101 ki_0 ?_
              refine r_istore (ls' := [(5, .int (0 : Int32)), (0, .ref (ya Z 0)), (1, .int x1), (2, .int x2), (3, .int x3), (4, .int x4), (6, .int x6)]) h d_M_two_102 (by decide) rfl ?_
              refine r_aload_n h d_M_two_104 1 rfl rfl ?_
              refine r_getR h fd_YM_0_64 cf_M fl_M_158 d_M_two_105 ?_
              refine r_iload h d_M_two_108 6 rfl ?_
              refine r_iald h sh_YM_50 d_M_two_110 hf (fun hf => ?_)
              refine r_istore (ls' := [(4, .int (σ.1 50 (Int32.toNatClampNeg x6))), (5, .int (0 : Int32)), (0, .ref (ya Z 0)), (1, .int x1), (2, .int x2), (3, .int x3), (6, .int x6)]) h d_M_two_111 (by decide) rfl ?_
              refine r_iinc (ls' := [(6, .int (x6 + (1 : Int32))), (4, .int (σ.1 50 (Int32.toNatClampNeg x6))), (5, .int (0 : Int32)), (0, .ref (ya Z 0)), (1, .int x1), (2, .int x2), (3, .int x3)]) h d_M_two_113 6 rfl ki_1 (by decide) rfl ?_
              refine r_goto h d_M_two_116 ?_
              refine r_sub h [3, 4, 5, 6, 1, 2, 0] rfl ?_
              exact ih _ _ _ hf
            · refine r_iload h d_M_two_85 4 rfl ?_
              refine r_aload_n h d_M_two_87 0 rfl rfl ?_
              refine r_getR h fd_YM_0_64 cf_M fl_M_158 d_M_two_88 ?_
              refine r_iload h d_M_two_91 6 rfl ?_
              refine r_iald h sh_YM_50 d_M_two_93 hf (fun hf => ?_)
              refine r_icmp_eq h d_M_two_94 hf (fun hf => ?_) (fun hf => ?_)
              · refine r_iconst h d_M_two_101 ki_0 ?_
                refine r_istore (ls' := [(5, .int (0 : Int32)), (0, .ref (ya Z 0)), (1, .int x1), (2, .int x2), (3, .int x3), (4, .int x4), (6, .int x6)]) h d_M_two_102 (by decide) rfl ?_
                refine r_aload_n h d_M_two_104 1 rfl rfl ?_
                refine r_getR h fd_YM_0_64 cf_M fl_M_158 d_M_two_105 ?_
                refine r_iload h d_M_two_108 6 rfl ?_
                refine r_iald h sh_YM_50 d_M_two_110 hf (fun hf => ?_)
                refine r_istore (ls' := [(4, .int (σ.1 50 (Int32.toNatClampNeg x6))), (5, .int (0 : Int32)), (0, .ref (ya Z 0)), (1, .int x1), (2, .int x2), (3, .int x3), (6, .int x6)]) h d_M_two_111 (by decide) rfl ?_
                refine r_iinc (ls' := [(6, .int (x6 + (1 : Int32))), (4, .int (σ.1 50 (Int32.toNatClampNeg x6))), (5, .int (0 : Int32)), (0, .ref (ya Z 0)), (1, .int x1), (2, .int x2), (3, .int x3)]) h d_M_two_113 6 rfl ki_1 (by decide) rfl ?_
                refine r_goto h d_M_two_116 ?_
                refine r_sub h [3, 4, 5, 6, 1, 2, 0] rfl ?_
                exact ih _ _ _ hf
              · refine r_iconst h d_M_two_97 ki_1 ?_
                refine r_goto h d_M_two_98 ?_
                refine r_istore (ls' := [(5, .int (1 : Int32)), (0, .ref (ya Z 0)), (1, .int x1), (2, .int x2), (3, .int x3), (4, .int x4), (6, .int x6)]) h d_M_two_102 (by decide) rfl ?_
                refine r_aload_n h d_M_two_104 1 rfl rfl ?_
                refine r_getR h fd_YM_0_64 cf_M fl_M_158 d_M_two_105 ?_
                refine r_iload h d_M_two_108 6 rfl ?_
                refine r_iald h sh_YM_50 d_M_two_110 hf (fun hf => ?_)
                refine r_istore (ls' := [(4, .int (σ.1 50 (Int32.toNatClampNeg x6))), (5, .int (1 : Int32)), (0, .ref (ya Z 0)), (1, .int x1), (2, .int x2), (3, .int x3), (6, .int x6)]) h d_M_two_111 (by decide) rfl ?_
                refine r_iinc (ls' := [(6, .int (x6 + (1 : Int32))), (4, .int (σ.1 50 (Int32.toNatClampNeg x6))), (5, .int (1 : Int32)), (0, .ref (ya Z 0)), (1, .int x1), (2, .int x2), (3, .int x3)]) h d_M_two_113 6 rfl ki_1 (by decide) rfl ?_
                refine r_goto h d_M_two_116 ?_
                refine r_sub h [3, 4, 5, 6, 1, 2, 0] rfl ?_
                exact ih _ _ _ hf

set_option maxHeartbeats 4000000 in
theorem w_M_two_L14 {Z : Sy} {Γ : Nat → List (Nat × Value) → List Value → St → Prop} {res : Int32} {x1 : Int32} {σ : St} (h : IsG YM Z R_M c_M_two 7 3 (some .int) (some (.int res)) σ Γ) : ∀ (n : Nat) (x2 : Int32) (x3 : Int32), M_two_L14 x1 σ n x2 x3 = some res → Γ 14 [(0, .ref (ya Z 0)), (1, .int x1), (2, .int x2), (3, .int x3)] [] σ := by
  intro n
  induction n with
  | zero => intro x2 x3 hf; exact absurd hf (by simp [M_two_L14])
  | succ n ih =>
    intro x2 x3 hf
    rw [M_two_L14] at hf
    refine r_iload_n h d_M_two_14 3 rfl rfl ?_
    refine r_sipush h d_M_two_15 ks_9999 ?_
    refine r_icmp_gt h d_M_two_18 hf (fun hf => ?_) (fun hf => ?_)
    · refine r_iload_n h d_M_two_138 2 rfl rfl ?_
      exact r_ireturn h d_M_two_139.1 (Option.some.inj hf) rfl
    · refine r_bipush h d_M_two_21 kb_m9 ?_
      refine r_istore (ls' := [(4, .int (-9 : Int32)), (0, .ref (ya Z 0)), (1, .int x1), (2, .int x2), (3, .int x3)]) h d_M_two_23 (by decide) rfl ?_
      refine r_iconst h d_M_two_25 ki_0 ?_
      refine r_istore (ls' := [(5, .int (0 : Int32)), (4, .int (-9 : Int32)), (0, .ref (ya Z 0)), (1, .int x1), (2, .int x2), (3, .int x3)]) h d_M_two_26 (by decide) rfl ?_
      refine r_iconst h d_M_two_28 ki_0 ?_
      refine r_istore (ls' := [(6, .int (0 : Int32)), (5, .int (0 : Int32)), (4, .int (-9 : Int32)), (0, .ref (ya Z 0)), (1, .int x1), (2, .int x2), (3, .int x3)]) h d_M_two_29 (by decide) rfl ?_
      refine r_sub h [3, 4, 5, 6, 2, 1, 0] rfl ?_
      exact w_M_two_L31 h (fun y2 y3 hf => ih y2 y3 hf) _ _ _ _ hf

set_option maxHeartbeats 4000000 in
theorem m_M_two {Z : Sy} {σ : St} {res : Int32} {x1 : Int32} (hf : M_two x1 σ = some res) : Ct YM Z y_M_two c_M_two 7 (some .int) 3 [.ref (ya Z 0), .int x1] σ (some (.int res)) σ := by
  refine Ct.of pn_M (Nat.le_of_ble_eq_true rfl) rfl (fun Γ h => ?_)
  have h : IsG YM Z R_M c_M_two 7 3 (some .int) (some (.int res)) σ Γ := h
  unfold M_two at hf
  refine r_aload_n h d_M_two_0 0 rfl rfl ?_
  refine r_iload_n h d_M_two_1 1 rfl rfl ?_
  obtain ⟨r2, e2, hf⟩ := q_bind hf
  refine r_callV (As := [.int x1]) (rest := []) h sh_YM_0 lk_M_433 vk_M_433 d_M_two_2 (by decide) rfl rfl (Nat.le_of_ble_eq_true rfl) (m_M_noRound e2) ?_
  refine r_bif_eq h d_M_two_5 hf (fun hf => ?_) (fun hf => ?_)
  · refine r_iconst h d_M_two_10 ki_0 ?_
    refine r_istore_n (ls' := [(2, .int (0 : Int32)), (0, .ref (ya Z 0)), (1, .int x1)]) h d_M_two_11 rfl (by decide) rfl ?_
    refine r_iconst h d_M_two_12 ki_0 ?_
    refine r_istore_n (ls' := [(3, .int (0 : Int32)), (2, .int (0 : Int32)), (0, .ref (ya Z 0)), (1, .int x1)]) h d_M_two_13 rfl (by decide) rfl ?_
    refine r_sub h [2, 3, 1, 0] rfl ?_
    exact w_M_two_L14 h _ _ _ hf
  · refine r_iconst h d_M_two_8 ki_m1 ?_
    exact r_ireturn h d_M_two_9.1 (Option.some.inj hf) rfl

