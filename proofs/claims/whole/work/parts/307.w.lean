theorem d_M_mayFollow_0 : decode c_M_mayFollow 0 = .ok (.iload_n 1, 1) ∧ 0 + 1 = 1 := by decide +kernel
theorem d_M_mayFollow_1 : decode c_M_mayFollow 1 = .ok (.aload_n 0, 1) ∧ 1 + 1 = 2 := by decide +kernel
theorem d_M_mayFollow_2 : decode c_M_mayFollow 2 = .ok (.getfield 143, 3) ∧ 2 + 3 = 5 := by decide +kernel
theorem d_M_mayFollow_5 : decode c_M_mayFollow 5 = .ok (.iconst 0, 1) ∧ 5 + 1 = 6 := by decide +kernel
theorem d_M_mayFollow_6 : decode c_M_mayFollow 6 = .ok (.iaload, 1) ∧ 6 + 1 = 7 := by decide +kernel
theorem d_M_mayFollow_7 : decode c_M_mayFollow 7 = .ok (.if_icmp .le 28, 3) ∧ 7 + 3 = 10 ∧ ((7 : Nat) : Int) + 28 = ((35 : Nat) : Int) := by decide +kernel
theorem d_M_mayFollow_10 : decode c_M_mayFollow 10 = .ok (.aload_n 0, 1) ∧ 10 + 1 = 11 := by decide +kernel
theorem d_M_mayFollow_11 : decode c_M_mayFollow 11 = .ok (.getfield 134, 3) ∧ 11 + 3 = 14 := by decide +kernel
theorem d_M_mayFollow_14 : decode c_M_mayFollow 14 = .ok (.bipush 10, 2) ∧ 14 + 2 = 16 := by decide +kernel
theorem d_M_mayFollow_16 : decode c_M_mayFollow 16 = .ok (.aload_n 0, 1) ∧ 16 + 1 = 17 := by decide +kernel
theorem d_M_mayFollow_17 : decode c_M_mayFollow 17 = .ok (.getfield 143, 3) ∧ 17 + 3 = 20 := by decide +kernel
theorem d_M_mayFollow_20 : decode c_M_mayFollow 20 = .ok (.iload_n 2, 1) ∧ 20 + 1 = 21 := by decide +kernel
theorem d_M_mayFollow_21 : decode c_M_mayFollow 21 = .ok (.iconst 1, 1) ∧ 21 + 1 = 22 := by decide +kernel
theorem d_M_mayFollow_22 : decode c_M_mayFollow 22 = .ok (.isub, 1) ∧ 22 + 1 = 23 := by decide +kernel
theorem d_M_mayFollow_23 : decode c_M_mayFollow 23 = .ok (.iaload, 1) ∧ 23 + 1 = 24 := by decide +kernel
theorem d_M_mayFollow_24 : decode c_M_mayFollow 24 = .ok (.imul, 1) ∧ 24 + 1 = 25 := by decide +kernel
theorem d_M_mayFollow_25 : decode c_M_mayFollow 25 = .ok (.iload_n 1, 1) ∧ 25 + 1 = 26 := by decide +kernel
theorem d_M_mayFollow_26 : decode c_M_mayFollow 26 = .ok (.iadd, 1) ∧ 26 + 1 = 27 := by decide +kernel
theorem d_M_mayFollow_27 : decode c_M_mayFollow 27 = .ok (.iaload, 1) ∧ 27 + 1 = 28 := by decide +kernel
theorem d_M_mayFollow_28 : decode c_M_mayFollow 28 = .ok (.ifCond .le 7, 3) ∧ 28 + 3 = 31 ∧ ((28 : Nat) : Int) + 7 = ((35 : Nat) : Int) := by decide +kernel
theorem d_M_mayFollow_31 : decode c_M_mayFollow 31 = .ok (.iconst 1, 1) ∧ 31 + 1 = 32 := by decide +kernel
theorem d_M_mayFollow_32 : decode c_M_mayFollow 32 = .ok (.goto 4, 3) ∧ (32 : Int) + 4 = (36 : Int) := by decide +kernel
theorem d_M_mayFollow_35 : decode c_M_mayFollow 35 = .ok (.iconst 0, 1) ∧ 35 + 1 = 36 := by decide +kernel
theorem d_M_mayFollow_36 : decode c_M_mayFollow 36 = .ok (.istore_n 3, 1) ∧ 36 + 1 = 37 := by decide +kernel
theorem d_M_mayFollow_37 : decode c_M_mayFollow 37 = .ok (.iconst 0, 1) ∧ 37 + 1 = 38 := by decide +kernel
theorem d_M_mayFollow_38 : decode c_M_mayFollow 38 = .ok (.istore 4, 2) ∧ 38 + 2 = 40 := by decide +kernel
theorem d_M_mayFollow_40 : decode c_M_mayFollow 40 = .ok (.iload 4, 2) ∧ 40 + 2 = 42 := by decide +kernel
theorem d_M_mayFollow_42 : decode c_M_mayFollow 42 = .ok (.iload_n 2, 1) ∧ 42 + 1 = 43 := by decide +kernel
theorem d_M_mayFollow_43 : decode c_M_mayFollow 43 = .ok (.if_icmp .ge 30, 3) ∧ 43 + 3 = 46 ∧ ((43 : Nat) : Int) + 30 = ((73 : Nat) : Int) := by decide +kernel
theorem d_M_mayFollow_46 : decode c_M_mayFollow 46 = .ok (.iload_n 3, 1) ∧ 46 + 1 = 47 := by decide +kernel
theorem d_M_mayFollow_47 : decode c_M_mayFollow 47 = .ok (.ifCond .eq 18, 3) ∧ 47 + 3 = 50 ∧ ((47 : Nat) : Int) + 18 = ((65 : Nat) : Int) := by decide +kernel
theorem d_M_mayFollow_50 : decode c_M_mayFollow 50 = .ok (.aload_n 0, 1) ∧ 50 + 1 = 51 := by decide +kernel
theorem d_M_mayFollow_51 : decode c_M_mayFollow 51 = .ok (.getfield 143, 3) ∧ 51 + 3 = 54 := by decide +kernel
theorem d_M_mayFollow_54 : decode c_M_mayFollow 54 = .ok (.iload 4, 2) ∧ 54 + 2 = 56 := by decide +kernel
theorem d_M_mayFollow_56 : decode c_M_mayFollow 56 = .ok (.iaload, 1) ∧ 56 + 1 = 57 := by decide +kernel
theorem d_M_mayFollow_57 : decode c_M_mayFollow 57 = .ok (.iload_n 1, 1) ∧ 57 + 1 = 58 := by decide +kernel
theorem d_M_mayFollow_58 : decode c_M_mayFollow 58 = .ok (.if_icmp .eq 7, 3) ∧ 58 + 3 = 61 ∧ ((58 : Nat) : Int) + 7 = ((65 : Nat) : Int) := by decide +kernel
theorem d_M_mayFollow_61 : decode c_M_mayFollow 61 = .ok (.iconst 1, 1) ∧ 61 + 1 = 62 := by decide +kernel
theorem d_M_mayFollow_62 : decode c_M_mayFollow 62 = .ok (.goto 4, 3) ∧ (62 : Int) + 4 = (66 : Int) := by decide +kernel
theorem d_M_mayFollow_65 : decode c_M_mayFollow 65 = .ok (.iconst 0, 1) ∧ 65 + 1 = 66 := by decide +kernel
theorem d_M_mayFollow_66 : decode c_M_mayFollow 66 = .ok (.istore_n 3, 1) ∧ 66 + 1 = 67 := by decide +kernel
theorem d_M_mayFollow_67 : decode c_M_mayFollow 67 = .ok (.iinc 4 1, 3) ∧ 67 + 3 = 70 := by decide +kernel
theorem d_M_mayFollow_70 : decode c_M_mayFollow 70 = .ok (.goto (-30), 3) ∧ (70 : Int) + (-30) = (40 : Int) := by decide +kernel
theorem d_M_mayFollow_73 : decode c_M_mayFollow 73 = .ok (.iload_n 3, 1) ∧ 73 + 1 = 74 := by decide +kernel
theorem d_M_mayFollow_74 : decode c_M_mayFollow 74 = .ok (.ireturn, 1) ∧ 74 + 1 = 75 := by decide +kernel
set_option maxHeartbeats 4000000 in
theorem w_M_mayFollow_L40 {Z : Sy} {Γ : Nat → List (Nat × Value) → List Value → St → Prop} {res : Bool} {x1 : Int32} {x2 : Int32} {σ : St} (h : IsG YM Z R_M c_M_mayFollow 5 1 (some .boolean) (some (.int (bi res))) σ Γ) : ∀ (n : Nat) (x3 : Int32) (x4 : Int32), M_mayFollow_L40 x1 x2 σ n x3 x4 = some res → Γ 40 [(0, .ref (ya Z 0)), (1, .int x1), (2, .int x2), (3, .int x3), (4, .int x4)] [] σ := by
  intro n
  induction n with
  | zero => intro x3 x4 hf; exact absurd hf (by simp [M_mayFollow_L40])
  | succ n ih =>
    intro x3 x4 hf
    rw [M_mayFollow_L40] at hf
    refine r_iload h d_M_mayFollow_40 4 rfl ?_
    refine r_iload_n h d_M_mayFollow_42 2 rfl rfl ?_
    refine r_icmp_ge h d_M_mayFollow_43 hf (fun hf => ?_) (fun hf => ?_)
    · refine r_iload_n h d_M_mayFollow_73 3 rfl rfl ?_
      refine q_case hf (fun hq hf => ?_) (fun hq hf => ?_)
      · exact r_zreturn h d_M_mayFollow_74.1 (hq.trans ((show (0 : Int32) = bi false from rfl).trans (congrArg bi (Option.some.inj hf)))) rfl
      · refine q_case hf (fun hq hf => ?_) (fun hq hf => ?_)
        · exact r_zreturn h d_M_mayFollow_74.1 (hq.trans ((show (1 : Int32) = bi true from rfl).trans (congrArg bi (Option.some.inj hf)))) rfl
        · cases hf
    · refine r_iload_n h d_M_mayFollow_46 3 rfl rfl ?_
      refine r_if_eq h d_M_mayFollow_47 hf (fun hf => ?_) (fun hf => ?_)
      · refine r_iconst h d_M_mayFollow_65 ki_0 ?_
        refine r_istore_n (ls' := [(3, .int (0 : Int32)), (0, .ref (ya Z 0)), (1, .int x1), (2, .int x2), (4, .int x4)]) h d_M_mayFollow_66 rfl (by decide) rfl ?_
        refine r_iinc (ls' := [(4, .int (x4 + (1 : Int32))), (3, .int (0 : Int32)), (0, .ref (ya Z 0)), (1, .int x1), (2, .int x2)]) h d_M_mayFollow_67 4 rfl ki_1 (by decide) rfl ?_
        refine r_goto h d_M_mayFollow_70 ?_
        refine r_sub h [2, 3, 4, 1, 0] rfl ?_
        exact ih _ _ hf
      · refine r_aload_n h d_M_mayFollow_50 0 rfl rfl ?_
        refine r_getR h fd_YM_0_57 cf_M fl_M_143 d_M_mayFollow_51 ?_
        refine r_iload h d_M_mayFollow_54 4 rfl ?_
        refine r_iald h sh_YM_45 d_M_mayFollow_56 hf (fun hf => ?_)
        refine r_iload_n h d_M_mayFollow_57 1 rfl rfl ?_
        refine r_icmp_eq h d_M_mayFollow_58 hf (fun hf => ?_) (fun hf => ?_)
        · refine r_iconst h d_M_mayFollow_65 ki_0 ?_
          refine r_istore_n (ls' := [(3, .int (0 : Int32)), (0, .ref (ya Z 0)), (1, .int x1), (2, .int x2), (4, .int x4)]) h d_M_mayFollow_66 rfl (by decide) rfl ?_
          refine r_iinc (ls' := [(4, .int (x4 + (1 : Int32))), (3, .int (0 : Int32)), (0, .ref (ya Z 0)), (1, .int x1), (2, .int x2)]) h d_M_mayFollow_67 4 rfl ki_1 (by decide) rfl ?_
          refine r_goto h d_M_mayFollow_70 ?_
          refine r_sub h [2, 3, 4, 1, 0] rfl ?_
          exact ih _ _ hf
        · refine r_iconst h d_M_mayFollow_61 ki_1 ?_
          refine r_goto h d_M_mayFollow_62 ?_
          refine r_istore_n (ls' := [(3, .int (1 : Int32)), (0, .ref (ya Z 0)), (1, .int x1), (2, .int x2), (4, .int x4)]) h d_M_mayFollow_66 rfl (by decide) rfl ?_
          refine r_iinc (ls' := [(4, .int (x4 + (1 : Int32))), (3, .int (1 : Int32)), (0, .ref (ya Z 0)), (1, .int x1), (2, .int x2)]) h d_M_mayFollow_67 4 rfl ki_1 (by decide) rfl ?_
          refine r_goto h d_M_mayFollow_70 ?_
          refine r_sub h [2, 3, 4, 1, 0] rfl ?_
          exact ih _ _ hf

set_option maxHeartbeats 4000000 in
theorem m_M_mayFollow {Z : Sy} {σ : St} {res : Bool} {x1 : Int32} {x2 : Int32} (hf : M_mayFollow x1 x2 σ = some res) : Ct YM Z y_M_mayFollow c_M_mayFollow 5 (some .boolean) 1 [.ref (ya Z 0), .int x1, .int x2] σ (some (.int (bi res))) σ := by
  refine Ct.of pn_M (Nat.le_of_ble_eq_true rfl) rfl (fun Γ h => ?_)
  have h : IsG YM Z R_M c_M_mayFollow 5 1 (some .boolean) (some (.int (bi res))) σ Γ := h
  unfold M_mayFollow at hf
  refine r_iload_n h d_M_mayFollow_0 1 rfl rfl ?_
  refine r_aload_n h d_M_mayFollow_1 0 rfl rfl ?_
  refine r_getR h fd_YM_0_57 cf_M fl_M_143 d_M_mayFollow_2 ?_
  refine r_iconst h d_M_mayFollow_5 ki_0 ?_
  refine r_iald h sh_YM_45 d_M_mayFollow_6 hf (fun hf => ?_)
  refine r_icmp_le h d_M_mayFollow_7 hf (fun hf => ?_) (fun hf => ?_)
  · refine r_iconst h d_M_mayFollow_35 ki_0 ?_
    refine r_istore_n (ls' := [(3, .int (0 : Int32)), (0, .ref (ya Z 0)), (1, .int x1), (2, .int x2)]) h d_M_mayFollow_36 rfl (by decide) rfl ?_
    refine r_iconst h d_M_mayFollow_37 ki_0 ?_
    refine r_istore (ls' := [(4, .int (0 : Int32)), (3, .int (0 : Int32)), (0, .ref (ya Z 0)), (1, .int x1), (2, .int x2)]) h d_M_mayFollow_38 (by decide) rfl ?_
    refine r_sub h [2, 3, 4, 1, 0] rfl ?_
    exact w_M_mayFollow_L40 h _ _ _ hf
  · refine r_aload_n h d_M_mayFollow_10 0 rfl rfl ?_
    refine r_getR h fd_YM_0_53 cf_M fl_M_134 d_M_mayFollow_11 ?_
    refine r_bipush h d_M_mayFollow_14 kb_10 ?_
    refine r_aload_n h d_M_mayFollow_16 0 rfl rfl ?_
    refine r_getR h fd_YM_0_57 cf_M fl_M_143 d_M_mayFollow_17 ?_
    refine r_iload_n h d_M_mayFollow_20 2 rfl rfl ?_
    refine r_iconst h d_M_mayFollow_21 ki_1 ?_
    refine r_isub h d_M_mayFollow_22 ?_
    refine r_iald h sh_YM_45 d_M_mayFollow_23 hf (fun hf => ?_)
    refine r_imul h d_M_mayFollow_24 ?_
    refine r_iload_n h d_M_mayFollow_25 1 rfl rfl ?_
    refine r_iadd h d_M_mayFollow_26 ?_
    refine r_iald h sh_YM_42 d_M_mayFollow_27 hf (fun hf => ?_)
    refine r_if_le h d_M_mayFollow_28 hf (fun hf => ?_) (fun hf => ?_)
    · refine r_iconst h d_M_mayFollow_35 ki_0 ?_
      refine r_istore_n (ls' := [(3, .int (0 : Int32)), (0, .ref (ya Z 0)), (1, .int x1), (2, .int x2)]) h d_M_mayFollow_36 rfl (by decide) rfl ?_
      refine r_iconst h d_M_mayFollow_37 ki_0 ?_
      refine r_istore (ls' := [(4, .int (0 : Int32)), (3, .int (0 : Int32)), (0, .ref (ya Z 0)), (1, .int x1), (2, .int x2)]) h d_M_mayFollow_38 (by decide) rfl ?_
      refine r_sub h [2, 3, 4, 1, 0] rfl ?_
      exact w_M_mayFollow_L40 h _ _ _ hf
    · refine r_iconst h d_M_mayFollow_31 ki_1 ?_
      refine r_goto h d_M_mayFollow_32 ?_
      refine r_istore_n (ls' := [(3, .int (1 : Int32)), (0, .ref (ya Z 0)), (1, .int x1), (2, .int x2)]) h d_M_mayFollow_36 rfl (by decide) rfl ?_
      refine r_iconst h d_M_mayFollow_37 ki_0 ?_
      refine r_istore (ls' := [(4, .int (0 : Int32)), (3, .int (1 : Int32)), (0, .ref (ya Z 0)), (1, .int x1), (2, .int x2)]) h d_M_mayFollow_38 (by decide) rfl ?_
      refine r_sub h [2, 3, 4, 1, 0] rfl ?_
      exact w_M_mayFollow_L40 h _ _ _ hf

theorem d_M_closes_0 : decode c_M_closes 0 = .ok (.aload_n 0, 1) ∧ 0 + 1 = 1 := by decide +kernel
theorem d_M_closes_1 : decode c_M_closes 1 = .ok (.getfield 134, 3) ∧ 1 + 3 = 4 := by decide +kernel
theorem d_M_closes_4 : decode c_M_closes 4 = .ok (.bipush 10, 2) ∧ 4 + 2 = 6 := by decide +kernel
theorem d_M_closes_6 : decode c_M_closes 6 = .ok (.aload_n 0, 1) ∧ 6 + 1 = 7 := by decide +kernel
theorem d_M_closes_7 : decode c_M_closes 7 = .ok (.getfield 143, 3) ∧ 7 + 3 = 10 := by decide +kernel
theorem d_M_closes_10 : decode c_M_closes 10 = .ok (.iload_n 1, 1) ∧ 10 + 1 = 11 := by decide +kernel
theorem d_M_closes_11 : decode c_M_closes 11 = .ok (.iconst 1, 1) ∧ 11 + 1 = 12 := by decide +kernel
theorem d_M_closes_12 : decode c_M_closes 12 = .ok (.isub, 1) ∧ 12 + 1 = 13 := by decide +kernel
theorem d_M_closes_13 : decode c_M_closes 13 = .ok (.iaload, 1) ∧ 13 + 1 = 14 := by decide +kernel
theorem d_M_closes_14 : decode c_M_closes 14 = .ok (.imul, 1) ∧ 14 + 1 = 15 := by decide +kernel
theorem d_M_closes_15 : decode c_M_closes 15 = .ok (.aload_n 0, 1) ∧ 15 + 1 = 16 := by decide +kernel
theorem d_M_closes_16 : decode c_M_closes 16 = .ok (.getfield 143, 3) ∧ 16 + 3 = 19 := by decide +kernel
theorem d_M_closes_19 : decode c_M_closes 19 = .ok (.iconst 0, 1) ∧ 19 + 1 = 20 := by decide +kernel
theorem d_M_closes_20 : decode c_M_closes 20 = .ok (.iaload, 1) ∧ 20 + 1 = 21 := by decide +kernel
theorem d_M_closes_21 : decode c_M_closes 21 = .ok (.iadd, 1) ∧ 21 + 1 = 22 := by decide +kernel
theorem d_M_closes_22 : decode c_M_closes 22 = .ok (.iaload, 1) ∧ 22 + 1 = 23 := by decide +kernel
theorem d_M_closes_23 : decode c_M_closes 23 = .ok (.ifCond .le 7, 3) ∧ 23 + 3 = 26 ∧ ((23 : Nat) : Int) + 7 = ((30 : Nat) : Int) := by decide +kernel
theorem d_M_closes_26 : decode c_M_closes 26 = .ok (.iconst 1, 1) ∧ 26 + 1 = 27 := by decide +kernel
theorem d_M_closes_27 : decode c_M_closes 27 = .ok (.goto 4, 3) ∧ (27 : Int) + 4 = (31 : Int) := by decide +kernel
theorem d_M_closes_30 : decode c_M_closes 30 = .ok (.iconst 0, 1) ∧ 30 + 1 = 31 := by decide +kernel
theorem d_M_closes_31 : decode c_M_closes 31 = .ok (.ireturn, 1) ∧ 31 + 1 = 32 := by decide +kernel
set_option maxHeartbeats 4000000 in
theorem m_M_closes {Z : Sy} {σ : St} {res : Bool} {x1 : Int32} (hf : M_closes x1 σ = some res) : Ct YM Z y_M_closes c_M_closes 2 (some .boolean) 1 [.ref (ya Z 0), .int x1] σ (some (.int (bi res))) σ := by
  refine Ct.of pn_M (Nat.le_of_ble_eq_true rfl) rfl (fun Γ h => ?_)
  have h : IsG YM Z R_M c_M_closes 2 1 (some .boolean) (some (.int (bi res))) σ Γ := h
  unfold M_closes at hf
  refine r_aload_n h d_M_closes_0 0 rfl rfl ?_
  refine r_getR h fd_YM_0_53 cf_M fl_M_134 d_M_closes_1 ?_
  refine r_bipush h d_M_closes_4 kb_10 ?_
  refine r_aload_n h d_M_closes_6 0 rfl rfl ?_
  refine r_getR h fd_YM_0_57 cf_M fl_M_143 d_M_closes_7 ?_
  refine r_iload_n h d_M_closes_10 1 rfl rfl ?_
  refine r_iconst h d_M_closes_11 ki_1 ?_
  refine r_isub h d_M_closes_12 ?_
  refine r_iald h sh_YM_45 d_M_closes_13 hf (fun hf => ?_)
  refine r_imul h d_M_closes_14 ?_
  refine r_aload_n h d_M_closes_15 0 rfl rfl ?_
  refine r_getR h fd_YM_0_57 cf_M fl_M_143 d_M_closes_16 ?_
  refine r_iconst h d_M_closes_19 ki_0 ?_
  refine r_iald h sh_YM_45 d_M_closes_20 hf (fun hf => ?_)
  refine r_iadd h d_M_closes_21 ?_
  refine r_iald h sh_YM_42 d_M_closes_22 hf (fun hf => ?_)
  refine r_if_le h d_M_closes_23 hf (fun hf => ?_) (fun hf => ?_)
  · refine r_iconst h d_M_closes_30 ki_0 ?_
    exact r_zreturn h d_M_closes_31.1 ((show (0 : Int32) = bi false from rfl).trans (congrArg bi (Option.some.inj hf))) rfl
  · refine r_iconst h d_M_closes_26 ki_1 ?_
    refine r_goto h d_M_closes_27 ?_
    exact r_zreturn h d_M_closes_31.1 ((show (1 : Int32) = bi true from rfl).trans (congrArg bi (Option.some.inj hf))) rfl

theorem d_M_findFrom_0 : decode c_M_findFrom 0 = .ok (.iconst 0, 1) ∧ 0 + 1 = 1 := by decide +kernel
theorem d_M_findFrom_1 : decode c_M_findFrom 1 = .ok (.istore_n 1, 1) ∧ 1 + 1 = 2 := by decide +kernel
theorem d_M_findFrom_2 : decode c_M_findFrom 2 = .ok (.iload_n 1, 1) ∧ 2 + 1 = 3 := by decide +kernel
theorem d_M_findFrom_3 : decode c_M_findFrom 3 = .ok (.bipush 10, 2) ∧ 3 + 2 = 5 := by decide +kernel
theorem d_M_findFrom_5 : decode c_M_findFrom 5 = .ok (.if_icmp .ge 85, 3) ∧ 5 + 3 = 8 ∧ ((5 : Nat) : Int) + 85 = ((90 : Nat) : Int) := by decide +kernel
theorem d_M_findFrom_8 : decode c_M_findFrom 8 = .ok (.aload_n 0, 1) ∧ 8 + 1 = 9 := by decide +kernel
theorem d_M_findFrom_9 : decode c_M_findFrom 9 = .ok (.iload_n 1, 1) ∧ 9 + 1 = 10 := by decide +kernel
theorem d_M_findFrom_10 : decode c_M_findFrom 10 = .ok (.iconst 2, 1) ∧ 10 + 1 = 11 := by decide +kernel
theorem d_M_findFrom_11 : decode c_M_findFrom 11 = .ok (.invokevirtual 405, 3) ∧ 11 + 3 = 14 := by decide +kernel
theorem d_M_findFrom_14 : decode c_M_findFrom 14 = .ok (.ifCond .eq 70, 3) ∧ 14 + 3 = 17 ∧ ((14 : Nat) : Int) + 70 = ((84 : Nat) : Int) := by decide +kernel
theorem d_M_findFrom_17 : decode c_M_findFrom 17 = .ok (.aload_n 0, 1) ∧ 17 + 1 = 18 := by decide +kernel
theorem d_M_findFrom_18 : decode c_M_findFrom 18 = .ok (.getfield 143, 3) ∧ 18 + 3 = 21 := by decide +kernel
theorem d_M_findFrom_21 : decode c_M_findFrom 21 = .ok (.iconst 2, 1) ∧ 21 + 1 = 22 := by decide +kernel
theorem d_M_findFrom_22 : decode c_M_findFrom 22 = .ok (.iload_n 1, 1) ∧ 22 + 1 = 23 := by decide +kernel
theorem d_M_findFrom_23 : decode c_M_findFrom 23 = .ok (.iastore, 1) ∧ 23 + 1 = 24 := by decide +kernel
theorem d_M_findFrom_24 : decode c_M_findFrom 24 = .ok (.aload_n 0, 1) ∧ 24 + 1 = 25 := by decide +kernel
theorem d_M_findFrom_25 : decode c_M_findFrom 25 = .ok (.iconst 3, 1) ∧ 25 + 1 = 26 := by decide +kernel
theorem d_M_findFrom_26 : decode c_M_findFrom 26 = .ok (.invokevirtual 408, 3) ∧ 26 + 3 = 29 := by decide +kernel
theorem d_M_findFrom_29 : decode c_M_findFrom 29 = .ok (.ifCond .eq 10, 3) ∧ 29 + 3 = 32 ∧ ((29 : Nat) : Int) + 10 = ((39 : Nat) : Int) := by decide +kernel
theorem d_M_findFrom_32 : decode c_M_findFrom 32 = .ok (.aload_n 0, 1) ∧ 32 + 1 = 33 := by decide +kernel
theorem d_M_findFrom_33 : decode c_M_findFrom 33 = .ok (.iconst 3, 1) ∧ 33 + 1 = 34 := by decide +kernel
theorem d_M_findFrom_34 : decode c_M_findFrom 34 = .ok (.putfield 411, 3) ∧ 34 + 3 = 37 := by decide +kernel
theorem d_M_findFrom_37 : decode c_M_findFrom 37 = .ok (.iconst 1, 1) ∧ 37 + 1 = 38 := by decide +kernel
theorem d_M_findFrom_38 : decode c_M_findFrom 38 = .ok (.ireturn, 1) ∧ 38 + 1 = 39 := by decide +kernel
theorem d_M_findFrom_39 : decode c_M_findFrom 39 = .ok (.iconst 0, 1) ∧ 39 + 1 = 40 := by decide +kernel
theorem d_M_findFrom_40 : decode c_M_findFrom 40 = .ok (.istore_n 2, 1) ∧ 40 + 1 = 41 := by decide +kernel
theorem d_M_findFrom_41 : decode c_M_findFrom 41 = .ok (.iload_n 2, 1) ∧ 41 + 1 = 42 := by decide +kernel
theorem d_M_findFrom_42 : decode c_M_findFrom 42 = .ok (.bipush 10, 2) ∧ 42 + 2 = 44 := by decide +kernel
theorem d_M_findFrom_44 : decode c_M_findFrom 44 = .ok (.if_icmp .ge 40, 3) ∧ 44 + 3 = 47 ∧ ((44 : Nat) : Int) + 40 = ((84 : Nat) : Int) := by decide +kernel
theorem d_M_findFrom_47 : decode c_M_findFrom 47 = .ok (.aload_n 0, 1) ∧ 47 + 1 = 48 := by decide +kernel
theorem d_M_findFrom_48 : decode c_M_findFrom 48 = .ok (.iload_n 2, 1) ∧ 48 + 1 = 49 := by decide +kernel
theorem d_M_findFrom_49 : decode c_M_findFrom 49 = .ok (.iconst 3, 1) ∧ 49 + 1 = 50 := by decide +kernel
theorem d_M_findFrom_50 : decode c_M_findFrom 50 = .ok (.invokevirtual 405, 3) ∧ 50 + 3 = 53 := by decide +kernel
theorem d_M_findFrom_53 : decode c_M_findFrom 53 = .ok (.ifCond .eq 25, 3) ∧ 53 + 3 = 56 ∧ ((53 : Nat) : Int) + 25 = ((78 : Nat) : Int) := by decide +kernel
theorem d_M_findFrom_56 : decode c_M_findFrom 56 = .ok (.aload_n 0, 1) ∧ 56 + 1 = 57 := by decide +kernel
theorem d_M_findFrom_57 : decode c_M_findFrom 57 = .ok (.getfield 143, 3) ∧ 57 + 3 = 60 := by decide +kernel
theorem d_M_findFrom_60 : decode c_M_findFrom 60 = .ok (.iconst 3, 1) ∧ 60 + 1 = 61 := by decide +kernel
theorem d_M_findFrom_61 : decode c_M_findFrom 61 = .ok (.iload_n 2, 1) ∧ 61 + 1 = 62 := by decide +kernel
theorem d_M_findFrom_62 : decode c_M_findFrom 62 = .ok (.iastore, 1) ∧ 62 + 1 = 63 := by decide +kernel
theorem d_M_findFrom_63 : decode c_M_findFrom 63 = .ok (.aload_n 0, 1) ∧ 63 + 1 = 64 := by decide +kernel
theorem d_M_findFrom_64 : decode c_M_findFrom 64 = .ok (.iconst 4, 1) ∧ 64 + 1 = 65 := by decide +kernel
theorem d_M_findFrom_65 : decode c_M_findFrom 65 = .ok (.invokevirtual 408, 3) ∧ 65 + 3 = 68 := by decide +kernel
theorem d_M_findFrom_68 : decode c_M_findFrom 68 = .ok (.ifCond .eq 10, 3) ∧ 68 + 3 = 71 ∧ ((68 : Nat) : Int) + 10 = ((78 : Nat) : Int) := by decide +kernel
theorem d_M_findFrom_71 : decode c_M_findFrom 71 = .ok (.aload_n 0, 1) ∧ 71 + 1 = 72 := by decide +kernel
theorem d_M_findFrom_72 : decode c_M_findFrom 72 = .ok (.iconst 4, 1) ∧ 72 + 1 = 73 := by decide +kernel
theorem d_M_findFrom_73 : decode c_M_findFrom 73 = .ok (.putfield 411, 3) ∧ 73 + 3 = 76 := by decide +kernel
theorem d_M_findFrom_76 : decode c_M_findFrom 76 = .ok (.iconst 1, 1) ∧ 76 + 1 = 77 := by decide +kernel
theorem d_M_findFrom_77 : decode c_M_findFrom 77 = .ok (.ireturn, 1) ∧ 77 + 1 = 78 := by decide +kernel
theorem d_M_findFrom_78 : decode c_M_findFrom 78 = .ok (.iinc 2 1, 3) ∧ 78 + 3 = 81 := by decide +kernel
theorem d_M_findFrom_81 : decode c_M_findFrom 81 = .ok (.goto (-40), 3) ∧ (81 : Int) + (-40) = (41 : Int) := by decide +kernel
theorem d_M_findFrom_84 : decode c_M_findFrom 84 = .ok (.iinc 1 1, 3) ∧ 84 + 3 = 87 := by decide +kernel
theorem d_M_findFrom_87 : decode c_M_findFrom 87 = .ok (.goto (-85), 3) ∧ (87 : Int) + (-85) = (2 : Int) := by decide +kernel
theorem d_M_findFrom_90 : decode c_M_findFrom 90 = .ok (.iconst 0, 1) ∧ 90 + 1 = 91 := by decide +kernel
theorem d_M_findFrom_91 : decode c_M_findFrom 91 = .ok (.ireturn, 1) ∧ 91 + 1 = 92 := by decide +kernel
set_option maxHeartbeats 4000000 in
theorem w_M_findFrom_L41 {Z : Sy} {Γ : Nat → List (Nat × Value) → List Value → St → Prop} {res : (Bool × St)} {x1 : Int32} {k2 : Int32 → St → Option (Bool × St)} (h : IsG YM Z R_M c_M_findFrom 3 2 (some .boolean) (some (.int (bi res.1))) res.2 Γ) (hk2 : ∀ (x1 : Int32) (σ : St), k2 x1 σ = some res → Γ 2 [(0, .ref (ya Z 0)), (1, .int x1)] [] σ) : ∀ (n : Nat) (x2 : Int32) (σ : St), M_findFrom_L41 x1 k2 n x2 σ = some res → Γ 41 [(0, .ref (ya Z 0)), (1, .int x1), (2, .int x2)] [] σ := by
  intro n
  induction n with
  | zero => intro x2 σ hf; exact absurd hf (by simp [M_findFrom_L41])
  | succ n ih =>
    intro x2 σ hf
    rw [M_findFrom_L41] at hf
    refine r_iload_n h d_M_findFrom_41 2 rfl rfl ?_
    refine r_bipush h d_M_findFrom_42 kb_10 ?_
    refine r_icmp_ge h d_M_findFrom_44 hf (fun hf => ?_) (fun hf => ?_)
    · refine r_iinc (ls' := [(1, .int (x1 + (1 : Int32))), (0, .ref (ya Z 0)), (2, .int x2)]) h d_M_findFrom_84 1 rfl ki_1 (by decide) rfl ?_
      refine r_goto h d_M_findFrom_87 ?_
      refine r_sub h [1, 0] rfl ?_
      exact hk2 _ _ hf
    · refine r_aload_n h d_M_findFrom_47 0 rfl rfl ?_
      refine r_iload_n h d_M_findFrom_48 2 rfl rfl ?_
      refine r_iconst h d_M_findFrom_49 ki_3 ?_
      obtain ⟨r50, e50, hf⟩ := q_bind hf
      refine r_callV (As := [.int x2, .int (3 : Int32)]) (rest := []) h sh_YM_0 lk_M_405 vk_M_405 d_M_findFrom_50 (by decide) rfl rfl (Nat.le_of_ble_eq_true rfl) (m_M_mayFollow e50) ?_
      refine r_bif_eq h d_M_findFrom_53 hf (fun hf => ?_) (fun hf => ?_)
      · refine r_iinc (ls' := [(2, .int (x2 + (1 : Int32))), (0, .ref (ya Z 0)), (1, .int x1)]) h d_M_findFrom_78 2 rfl ki_1 (by decide) rfl ?_
        refine r_goto h d_M_findFrom_81 ?_
        refine r_sub h [1, 2, 0] rfl ?_
        exact ih _ _ hf
      · refine r_aload_n h d_M_findFrom_56 0 rfl rfl ?_
        refine r_getR h fd_YM_0_57 cf_M fl_M_143 d_M_findFrom_57 ?_
        refine r_iconst h d_M_findFrom_60 ki_3 ?_
        refine r_iload_n h d_M_findFrom_61 2 rfl rfl ?_
        refine r_iast h sh_YM_45 d_M_findFrom_62 hf (fun hf => ?_)
        refine r_aload_n h d_M_findFrom_63 0 rfl rfl ?_
        refine r_iconst h d_M_findFrom_64 ki_4 ?_
        obtain ⟨r65, e65, hf⟩ := q_bind hf
        refine r_callV (As := [.int (4 : Int32)]) (rest := []) h sh_YM_0 lk_M_408 vk_M_408 d_M_findFrom_65 (by decide) rfl rfl (Nat.le_of_ble_eq_true rfl) (m_M_closes e65) ?_
        refine r_bif_eq h d_M_findFrom_68 hf (fun hf => ?_) (fun hf => ?_)
        · refine r_iinc (ls' := [(2, .int (x2 + (1 : Int32))), (0, .ref (ya Z 0)), (1, .int x1)]) h d_M_findFrom_78 2 rfl ki_1 (by decide) rfl ?_
          refine r_goto h d_M_findFrom_81 ?_
          refine r_sub h [1, 2, 0] rfl ?_
          exact ih _ _ hf
        · refine r_aload_n h d_M_findFrom_71 0 rfl rfl ?_
          refine r_iconst h d_M_findFrom_72 ki_4 ?_
          refine r_putI h fd_YM_0_56 cf_M fl_M_411 ⟨rfl, rfl⟩ d_M_findFrom_73 ?_
          refine r_iconst h d_M_findFrom_76 ki_1 ?_
          exact r_zreturn h d_M_findFrom_77.1 ((show (1 : Int32) = bi true from rfl).trans (congrArg bi (q_p1 hf))) (q_p2 hf)

set_option maxHeartbeats 4000000 in
theorem w_M_findFrom_L2 {Z : Sy} {Γ : Nat → List (Nat × Value) → List Value → St → Prop} {res : (Bool × St)} (h : IsG YM Z R_M c_M_findFrom 3 2 (some .boolean) (some (.int (bi res.1))) res.2 Γ) : ∀ (n : Nat) (x1 : Int32) (σ : St), M_findFrom_L2 n x1 σ = some res → Γ 2 [(0, .ref (ya Z 0)), (1, .int x1)] [] σ := by
  intro n
  induction n with
  | zero => intro x1 σ hf; exact absurd hf (by simp [M_findFrom_L2])
  | succ n ih =>
    intro x1 σ hf
    rw [M_findFrom_L2] at hf
    refine r_iload_n h d_M_findFrom_2 1 rfl rfl ?_
    refine r_bipush h d_M_findFrom_3 kb_10 ?_
    refine r_icmp_ge h d_M_findFrom_5 hf (fun hf => ?_) (fun hf => ?_)
    · refine r_iconst h d_M_findFrom_90 ki_0 ?_
      exact r_zreturn h d_M_findFrom_91.1 ((show (0 : Int32) = bi false from rfl).trans (congrArg bi (q_p1 hf))) (q_p2 hf)
    · refine r_aload_n h d_M_findFrom_8 0 rfl rfl ?_
      refine r_iload_n h d_M_findFrom_9 1 rfl rfl ?_
      refine r_iconst h d_M_findFrom_10 ki_2 ?_
      obtain ⟨r11, e11, hf⟩ := q_bind hf
      refine r_callV (As := [.int x1, .int (2 : Int32)]) (rest := []) h sh_YM_0 lk_M_405 vk_M_405 d_M_findFrom_11 (by decide) rfl rfl (Nat.le_of_ble_eq_true rfl) (m_M_mayFollow e11) ?_
      refine r_bif_eq h d_M_findFrom_14 hf (fun hf => ?_) (fun hf => ?_)
      · refine r_iinc (ls' := [(1, .int (x1 + (1 : Int32))), (0, .ref (ya Z 0))]) h d_M_findFrom_84 1 rfl ki_1 (by decide) rfl ?_
        refine r_goto h d_M_findFrom_87 ?_
        refine r_sub h [1, 0] rfl ?_
        exact ih _ _ hf
      · refine r_aload_n h d_M_findFrom_17 0 rfl rfl ?_
        refine r_getR h fd_YM_0_57 cf_M fl_M_143 d_M_findFrom_18 ?_
        refine r_iconst h d_M_findFrom_21 ki_2 ?_
        refine r_iload_n h d_M_findFrom_22 1 rfl rfl ?_
        refine r_iast h sh_YM_45 d_M_findFrom_23 hf (fun hf => ?_)
        refine r_aload_n h d_M_findFrom_24 0 rfl rfl ?_
        refine r_iconst h d_M_findFrom_25 ki_3 ?_
        obtain ⟨r26, e26, hf⟩ := q_bind hf
        refine r_callV (As := [.int (3 : Int32)]) (rest := []) h sh_YM_0 lk_M_408 vk_M_408 d_M_findFrom_26 (by decide) rfl rfl (Nat.le_of_ble_eq_true rfl) (m_M_closes e26) ?_
        refine r_bif_eq h d_M_findFrom_29 hf (fun hf => ?_) (fun hf => ?_)
        · refine r_iconst h d_M_findFrom_39 ki_0 ?_
          refine r_istore_n (ls' := [(2, .int (0 : Int32)), (0, .ref (ya Z 0)), (1, .int x1)]) h d_M_findFrom_40 rfl (by decide) rfl ?_
          refine r_sub h [1, 2, 0] rfl ?_
          exact w_M_findFrom_L41 h (fun y1 τ hf => ih y1 τ hf) _ _ _ hf
        · refine r_aload_n h d_M_findFrom_32 0 rfl rfl ?_
          refine r_iconst h d_M_findFrom_33 ki_3 ?_
          refine r_putI h fd_YM_0_56 cf_M fl_M_411 ⟨rfl, rfl⟩ d_M_findFrom_34 ?_
          refine r_iconst h d_M_findFrom_37 ki_1 ?_
          exact r_zreturn h d_M_findFrom_38.1 ((show (1 : Int32) = bi true from rfl).trans (congrArg bi (q_p1 hf))) (q_p2 hf)

set_option maxHeartbeats 4000000 in
theorem m_M_findFrom {Z : Sy} {σ : St} {res : (Bool × St)} (hf : M_findFrom  σ = some res) : Ct YM Z y_M_findFrom c_M_findFrom 3 (some .boolean) 2 [.ref (ya Z 0)] σ (some (.int (bi res.1))) res.2 := by
  refine Ct.of pn_M (Nat.le_of_ble_eq_true rfl) rfl (fun Γ h => ?_)
  have h : IsG YM Z R_M c_M_findFrom 3 2 (some .boolean) (some (.int (bi res.1))) res.2 Γ := h
  unfold M_findFrom at hf
  refine r_iconst h d_M_findFrom_0 ki_0 ?_
  refine r_istore_n (ls' := [(1, .int (0 : Int32)), (0, .ref (ya Z 0))]) h d_M_findFrom_1 rfl (by decide) rfl ?_
  refine r_sub h [1, 0] rfl ?_
  exact w_M_findFrom_L2 h _ _ _ hf

theorem d_M_findRing_0 : decode c_M_findRing 0 = .ok (.iconst 0, 1) ∧ 0 + 1 = 1 := by decide +kernel
theorem d_M_findRing_1 : decode c_M_findRing 1 = .ok (.istore_n 1, 1) ∧ 1 + 1 = 2 := by decide +kernel
theorem d_M_findRing_2 : decode c_M_findRing 2 = .ok (.iload_n 1, 1) ∧ 2 + 1 = 3 := by decide +kernel
theorem d_M_findRing_3 : decode c_M_findRing 3 = .ok (.bipush 10, 2) ∧ 3 + 2 = 5 := by decide +kernel
theorem d_M_findRing_5 : decode c_M_findRing 5 = .ok (.if_icmp .ge 72, 3) ∧ 5 + 3 = 8 ∧ ((5 : Nat) : Int) + 72 = ((77 : Nat) : Int) := by decide +kernel
theorem d_M_findRing_8 : decode c_M_findRing 8 = .ok (.aload_n 0, 1) ∧ 8 + 1 = 9 := by decide +kernel
theorem d_M_findRing_9 : decode c_M_findRing 9 = .ok (.getfield 143, 3) ∧ 9 + 3 = 12 := by decide +kernel
theorem d_M_findRing_12 : decode c_M_findRing 12 = .ok (.iconst 0, 1) ∧ 12 + 1 = 13 := by decide +kernel
theorem d_M_findRing_13 : decode c_M_findRing 13 = .ok (.iload_n 1, 1) ∧ 13 + 1 = 14 := by decide +kernel
theorem d_M_findRing_14 : decode c_M_findRing 14 = .ok (.iastore, 1) ∧ 14 + 1 = 15 := by decide +kernel
theorem d_M_findRing_15 : decode c_M_findRing 15 = .ok (.iload_n 1, 1) ∧ 15 + 1 = 16 := by decide +kernel
theorem d_M_findRing_16 : decode c_M_findRing 16 = .ok (.iconst 1, 1) ∧ 16 + 1 = 17 := by decide +kernel
theorem d_M_findRing_17 : decode c_M_findRing 17 = .ok (.iadd, 1) ∧ 17 + 1 = 18 := by decide +kernel
theorem d_M_findRing_18 : decode c_M_findRing 18 = .ok (.istore_n 2, 1) ∧ 18 + 1 = 19 := by decide +kernel
theorem d_M_findRing_19 : decode c_M_findRing 19 = .ok (.iload_n 2, 1) ∧ 19 + 1 = 20 := by decide +kernel
theorem d_M_findRing_20 : decode c_M_findRing 20 = .ok (.bipush 10, 2) ∧ 20 + 2 = 22 := by decide +kernel
theorem d_M_findRing_22 : decode c_M_findRing 22 = .ok (.if_icmp .ge 49, 3) ∧ 22 + 3 = 25 ∧ ((22 : Nat) : Int) + 49 = ((71 : Nat) : Int) := by decide +kernel
theorem d_M_findRing_25 : decode c_M_findRing 25 = .ok (.aload_n 0, 1) ∧ 25 + 1 = 26 := by decide +kernel
theorem d_M_findRing_26 : decode c_M_findRing 26 = .ok (.iload_n 2, 1) ∧ 26 + 1 = 27 := by decide +kernel
theorem d_M_findRing_27 : decode c_M_findRing 27 = .ok (.iconst 1, 1) ∧ 27 + 1 = 28 := by decide +kernel
theorem d_M_findRing_28 : decode c_M_findRing 28 = .ok (.invokevirtual 405, 3) ∧ 28 + 3 = 31 := by decide +kernel
theorem d_M_findRing_31 : decode c_M_findRing 31 = .ok (.ifCond .eq 34, 3) ∧ 31 + 3 = 34 ∧ ((31 : Nat) : Int) + 34 = ((65 : Nat) : Int) := by decide +kernel
theorem d_M_findRing_34 : decode c_M_findRing 34 = .ok (.aload_n 0, 1) ∧ 34 + 1 = 35 := by decide +kernel
theorem d_M_findRing_35 : decode c_M_findRing 35 = .ok (.getfield 143, 3) ∧ 35 + 3 = 38 := by decide +kernel
theorem d_M_findRing_38 : decode c_M_findRing 38 = .ok (.iconst 1, 1) ∧ 38 + 1 = 39 := by decide +kernel
theorem d_M_findRing_39 : decode c_M_findRing 39 = .ok (.iload_n 2, 1) ∧ 39 + 1 = 40 := by decide +kernel
theorem d_M_findRing_40 : decode c_M_findRing 40 = .ok (.iastore, 1) ∧ 40 + 1 = 41 := by decide +kernel
theorem d_M_findRing_41 : decode c_M_findRing 41 = .ok (.aload_n 0, 1) ∧ 41 + 1 = 42 := by decide +kernel
theorem d_M_findRing_42 : decode c_M_findRing 42 = .ok (.iconst 2, 1) ∧ 42 + 1 = 43 := by decide +kernel
theorem d_M_findRing_43 : decode c_M_findRing 43 = .ok (.invokevirtual 408, 3) ∧ 43 + 3 = 46 := by decide +kernel
theorem d_M_findRing_46 : decode c_M_findRing 46 = .ok (.ifCond .eq 10, 3) ∧ 46 + 3 = 49 ∧ ((46 : Nat) : Int) + 10 = ((56 : Nat) : Int) := by decide +kernel
theorem d_M_findRing_49 : decode c_M_findRing 49 = .ok (.aload_n 0, 1) ∧ 49 + 1 = 50 := by decide +kernel
theorem d_M_findRing_50 : decode c_M_findRing 50 = .ok (.iconst 2, 1) ∧ 50 + 1 = 51 := by decide +kernel
theorem d_M_findRing_51 : decode c_M_findRing 51 = .ok (.putfield 411, 3) ∧ 51 + 3 = 54 := by decide +kernel
theorem d_M_findRing_54 : decode c_M_findRing 54 = .ok (.iconst 1, 1) ∧ 54 + 1 = 55 := by decide +kernel
theorem d_M_findRing_55 : decode c_M_findRing 55 = .ok (.ireturn, 1) ∧ 55 + 1 = 56 := by decide +kernel
theorem d_M_findRing_56 : decode c_M_findRing 56 = .ok (.aload_n 0, 1) ∧ 56 + 1 = 57 := by decide +kernel
theorem d_M_findRing_57 : decode c_M_findRing 57 = .ok (.invokevirtual 414, 3) ∧ 57 + 3 = 60 := by decide +kernel
theorem d_M_findRing_60 : decode c_M_findRing 60 = .ok (.ifCond .eq 5, 3) ∧ 60 + 3 = 63 ∧ ((60 : Nat) : Int) + 5 = ((65 : Nat) : Int) := by decide +kernel
theorem d_M_findRing_63 : decode c_M_findRing 63 = .ok (.iconst 1, 1) ∧ 63 + 1 = 64 := by decide +kernel
theorem d_M_findRing_64 : decode c_M_findRing 64 = .ok (.ireturn, 1) ∧ 64 + 1 = 65 := by decide +kernel
theorem d_M_findRing_65 : decode c_M_findRing 65 = .ok (.iinc 2 1, 3) ∧ 65 + 3 = 68 := by decide +kernel
theorem d_M_findRing_68 : decode c_M_findRing 68 = .ok (.goto (-49), 3) ∧ (68 : Int) + (-49) = (19 : Int) := by decide +kernel
theorem d_M_findRing_71 : decode c_M_findRing 71 = .ok (.iinc 1 1, 3) ∧ 71 + 3 = 74 := by decide +kernel
theorem d_M_findRing_74 : decode c_M_findRing 74 = .ok (.goto (-72), 3) ∧ (74 : Int) + (-72) = (2 : Int) := by decide +kernel
theorem d_M_findRing_77 : decode c_M_findRing 77 = .ok (.iconst 0, 1) ∧ 77 + 1 = 78 := by decide +kernel
theorem d_M_findRing_78 : decode c_M_findRing 78 = .ok (.ireturn, 1) ∧ 78 + 1 = 79 := by decide +kernel
set_option maxHeartbeats 4000000 in
theorem w_M_findRing_L19 {Z : Sy} {Γ : Nat → List (Nat × Value) → List Value → St → Prop} {res : (Bool × St)} {x1 : Int32} {k2 : Int32 → St → Option (Bool × St)} (h : IsG YM Z R_M c_M_findRing 3 3 (some .boolean) (some (.int (bi res.1))) res.2 Γ) (hk2 : ∀ (x1 : Int32) (σ : St), k2 x1 σ = some res → Γ 2 [(0, .ref (ya Z 0)), (1, .int x1)] [] σ) : ∀ (n : Nat) (x2 : Int32) (σ : St), M_findRing_L19 x1 k2 n x2 σ = some res → Γ 19 [(0, .ref (ya Z 0)), (1, .int x1), (2, .int x2)] [] σ := by
  intro n
  induction n with
  | zero => intro x2 σ hf; exact absurd hf (by simp [M_findRing_L19])
  | succ n ih =>
    intro x2 σ hf
    rw [M_findRing_L19] at hf
    refine r_iload_n h d_M_findRing_19 2 rfl rfl ?_
    refine r_bipush h d_M_findRing_20 kb_10 ?_
    refine r_icmp_ge h d_M_findRing_22 hf (fun hf => ?_) (fun hf => ?_)
    · refine r_iinc (ls' := [(1, .int (x1 + (1 : Int32))), (0, .ref (ya Z 0)), (2, .int x2)]) h d_M_findRing_71 1 rfl ki_1 (by decide) rfl ?_
      refine r_goto h d_M_findRing_74 ?_
      refine r_sub h [1, 0] rfl ?_
      exact hk2 _ _ hf
    · refine r_aload_n h d_M_findRing_25 0 rfl rfl ?_
      refine r_iload_n h d_M_findRing_26 2 rfl rfl ?_
      refine r_iconst h d_M_findRing_27 ki_1 ?_
      obtain ⟨r28, e28, hf⟩ := q_bind hf
      refine r_callV (As := [.int x2, .int (1 : Int32)]) (rest := []) h sh_YM_0 lk_M_405 vk_M_405 d_M_findRing_28 (by decide) rfl rfl (Nat.le_of_ble_eq_true rfl) (m_M_mayFollow e28) ?_
      refine r_bif_eq h d_M_findRing_31 hf (fun hf => ?_) (fun hf => ?_)
      · refine r_iinc (ls' := [(2, .int (x2 + (1 : Int32))), (0, .ref (ya Z 0)), (1, .int x1)]) h d_M_findRing_65 2 rfl ki_1 (by decide) rfl ?_
        refine r_goto h d_M_findRing_68 ?_
        refine r_sub h [1, 2, 0] rfl ?_
        exact ih _ _ hf
      · refine r_aload_n h d_M_findRing_34 0 rfl rfl ?_
        refine r_getR h fd_YM_0_57 cf_M fl_M_143 d_M_findRing_35 ?_
        refine r_iconst h d_M_findRing_38 ki_1 ?_
        refine r_iload_n h d_M_findRing_39 2 rfl rfl ?_
        refine r_iast h sh_YM_45 d_M_findRing_40 hf (fun hf => ?_)
        refine r_aload_n h d_M_findRing_41 0 rfl rfl ?_
        refine r_iconst h d_M_findRing_42 ki_2 ?_
        obtain ⟨r43, e43, hf⟩ := q_bind hf
        refine r_callV (As := [.int (2 : Int32)]) (rest := []) h sh_YM_0 lk_M_408 vk_M_408 d_M_findRing_43 (by decide) rfl rfl (Nat.le_of_ble_eq_true rfl) (m_M_closes e43) ?_
        refine r_bif_eq h d_M_findRing_46 hf (fun hf => ?_) (fun hf => ?_)
        · refine r_aload_n h d_M_findRing_56 0 rfl rfl ?_
          obtain ⟨q57, e57, hf⟩ := q_bind hf
          refine r_callV (As := []) (rest := []) h sh_YM_0 lk_M_414 vk_M_414 d_M_findRing_57 (by decide) rfl rfl (Nat.le_of_ble_eq_true rfl) (m_M_findFrom e57) ?_
          refine r_bif_eq h d_M_findRing_60 hf (fun hf => ?_) (fun hf => ?_)
          · refine r_iinc (ls' := [(2, .int (x2 + (1 : Int32))), (0, .ref (ya Z 0)), (1, .int x1)]) h d_M_findRing_65 2 rfl ki_1 (by decide) rfl ?_
            refine r_goto h d_M_findRing_68 ?_
            refine r_sub h [1, 2, 0] rfl ?_
            exact ih _ _ hf
          · refine r_iconst h d_M_findRing_63 ki_1 ?_
            exact r_zreturn h d_M_findRing_64.1 ((show (1 : Int32) = bi true from rfl).trans (congrArg bi (q_p1 hf))) (q_p2 hf)
        · refine r_aload_n h d_M_findRing_49 0 rfl rfl ?_
          refine r_iconst h d_M_findRing_50 ki_2 ?_
          refine r_putI h fd_YM_0_56 cf_M fl_M_411 ⟨rfl, rfl⟩ d_M_findRing_51 ?_
          refine r_iconst h d_M_findRing_54 ki_1 ?_
          exact r_zreturn h d_M_findRing_55.1 ((show (1 : Int32) = bi true from rfl).trans (congrArg bi (q_p1 hf))) (q_p2 hf)

set_option maxHeartbeats 4000000 in
theorem w_M_findRing_L2 {Z : Sy} {Γ : Nat → List (Nat × Value) → List Value → St → Prop} {res : (Bool × St)} (h : IsG YM Z R_M c_M_findRing 3 3 (some .boolean) (some (.int (bi res.1))) res.2 Γ) : ∀ (n : Nat) (x1 : Int32) (σ : St), M_findRing_L2 n x1 σ = some res → Γ 2 [(0, .ref (ya Z 0)), (1, .int x1)] [] σ := by
  intro n
  induction n with
  | zero => intro x1 σ hf; exact absurd hf (by simp [M_findRing_L2])
  | succ n ih =>
    intro x1 σ hf
    rw [M_findRing_L2] at hf
    refine r_iload_n h d_M_findRing_2 1 rfl rfl ?_
    refine r_bipush h d_M_findRing_3 kb_10 ?_
    refine r_icmp_ge h d_M_findRing_5 hf (fun hf => ?_) (fun hf => ?_)
    · refine r_iconst h d_M_findRing_77 ki_0 ?_
      exact r_zreturn h d_M_findRing_78.1 ((show (0 : Int32) = bi false from rfl).trans (congrArg bi (q_p1 hf))) (q_p2 hf)
    · refine r_aload_n h d_M_findRing_8 0 rfl rfl ?_
      refine r_getR h fd_YM_0_57 cf_M fl_M_143 d_M_findRing_9 ?_
      refine r_iconst h d_M_findRing_12 ki_0 ?_
      refine r_iload_n h d_M_findRing_13 1 rfl rfl ?_
      refine r_iast h sh_YM_45 d_M_findRing_14 hf (fun hf => ?_)
      refine r_iload_n h d_M_findRing_15 1 rfl rfl ?_
      refine r_iconst h d_M_findRing_16 ki_1 ?_
      refine r_iadd h d_M_findRing_17 ?_
      refine r_istore_n (ls' := [(2, .int (x1 + (1 : Int32))), (0, .ref (ya Z 0)), (1, .int x1)]) h d_M_findRing_18 rfl (by decide) rfl ?_
      refine r_sub h [1, 2, 0] rfl ?_
      exact w_M_findRing_L19 h (fun y1 τ hf => ih y1 τ hf) _ _ _ hf

set_option maxHeartbeats 4000000 in
theorem m_M_findRing {Z : Sy} {σ : St} {res : (Bool × St)} (hf : M_findRing  σ = some res) : Ct YM Z y_M_findRing c_M_findRing 3 (some .boolean) 3 [.ref (ya Z 0)] σ (some (.int (bi res.1))) res.2 := by
  refine Ct.of pn_M (Nat.le_of_ble_eq_true rfl) rfl (fun Γ h => ?_)
  have h : IsG YM Z R_M c_M_findRing 3 3 (some .boolean) (some (.int (bi res.1))) res.2 Γ := h
  unfold M_findRing at hf
  refine r_iconst h d_M_findRing_0 ki_0 ?_
  refine r_istore_n (ls' := [(1, .int (0 : Int32)), (0, .ref (ya Z 0))]) h d_M_findRing_1 rfl (by decide) rfl ?_
  refine r_sub h [1, 0] rfl ?_
  exact w_M_findRing_L2 h _ _ _ hf

theorem d_M_ring_0 : decode c_M_ring 0 = .ok (.iconst 0, 1) ∧ 0 + 1 = 1 := by decide +kernel
theorem d_M_ring_1 : decode c_M_ring 1 = .ok (.istore_n 1, 1) ∧ 1 + 1 = 2 := by decide +kernel
theorem d_M_ring_2 : decode c_M_ring 2 = .ok (.aload_n 0, 1) ∧ 2 + 1 = 3 := by decide +kernel
theorem d_M_ring_3 : decode c_M_ring 3 = .ok (.invokevirtual 418, 3) ∧ 3 + 3 = 6 := by decide +kernel
theorem d_M_ring_6 : decode c_M_ring 6 = .ok (.ifCond .eq 116, 3) ∧ 6 + 3 = 9 ∧ ((6 : Nat) : Int) + 116 = ((122 : Nat) : Int) := by decide +kernel
theorem d_M_ring_9 : decode c_M_ring 9 = .ok (.ldc_w 421, 3) ∧ 9 + 3 = 12 := by decide +kernel
theorem d_M_ring_12 : decode c_M_ring 12 = .ok (.istore_n 2, 1) ∧ 12 + 1 = 13 := by decide +kernel
theorem d_M_ring_13 : decode c_M_ring 13 = .ok (.iconst 0, 1) ∧ 13 + 1 = 14 := by decide +kernel
theorem d_M_ring_14 : decode c_M_ring 14 = .ok (.istore_n 3, 1) ∧ 14 + 1 = 15 := by decide +kernel
theorem d_M_ring_15 : decode c_M_ring 15 = .ok (.iload_n 3, 1) ∧ 15 + 1 = 16 := by decide +kernel
theorem d_M_ring_16 : decode c_M_ring 16 = .ok (.aload_n 0, 1) ∧ 16 + 1 = 17 := by decide +kernel
theorem d_M_ring_17 : decode c_M_ring 17 = .ok (.getfield 411, 3) ∧ 17 + 3 = 20 := by decide +kernel
theorem d_M_ring_20 : decode c_M_ring 20 = .ok (.if_icmp .ge 42, 3) ∧ 20 + 3 = 23 ∧ ((20 : Nat) : Int) + 42 = ((62 : Nat) : Int) := by decide +kernel
theorem d_M_ring_23 : decode c_M_ring 23 = .ok (.iload_n 2, 1) ∧ 23 + 1 = 24 := by decide +kernel
theorem d_M_ring_24 : decode c_M_ring 24 = .ok (.aload_n 0, 1) ∧ 24 + 1 = 25 := by decide +kernel
theorem d_M_ring_25 : decode c_M_ring 25 = .ok (.getfield 134, 3) ∧ 25 + 3 = 28 := by decide +kernel
theorem d_M_ring_28 : decode c_M_ring 28 = .ok (.bipush 10, 2) ∧ 28 + 2 = 30 := by decide +kernel
theorem d_M_ring_30 : decode c_M_ring 30 = .ok (.aload_n 0, 1) ∧ 30 + 1 = 31 := by decide +kernel
theorem d_M_ring_31 : decode c_M_ring 31 = .ok (.getfield 143, 3) ∧ 31 + 3 = 34 := by decide +kernel
theorem d_M_ring_34 : decode c_M_ring 34 = .ok (.iload_n 3, 1) ∧ 34 + 1 = 35 := by decide +kernel
theorem d_M_ring_35 : decode c_M_ring 35 = .ok (.iaload, 1) ∧ 35 + 1 = 36 := by decide +kernel
theorem d_M_ring_36 : decode c_M_ring 36 = .ok (.imul, 1) ∧ 36 + 1 = 37 := by decide +kernel
theorem d_M_ring_37 : decode c_M_ring 37 = .ok (.aload_n 0, 1) ∧ 37 + 1 = 38 := by decide +kernel
theorem d_M_ring_38 : decode c_M_ring 38 = .ok (.getfield 143, 3) ∧ 38 + 3 = 41 := by decide +kernel
theorem d_M_ring_41 : decode c_M_ring 41 = .ok (.iload_n 3, 1) ∧ 41 + 1 = 42 := by decide +kernel
theorem d_M_ring_42 : decode c_M_ring 42 = .ok (.iconst 1, 1) ∧ 42 + 1 = 43 := by decide +kernel
theorem d_M_ring_43 : decode c_M_ring 43 = .ok (.iadd, 1) ∧ 43 + 1 = 44 := by decide +kernel
theorem d_M_ring_44 : decode c_M_ring 44 = .ok (.aload_n 0, 1) ∧ 44 + 1 = 45 := by decide +kernel
theorem d_M_ring_45 : decode c_M_ring 45 = .ok (.getfield 411, 3) ∧ 45 + 3 = 48 := by decide +kernel
theorem d_M_ring_48 : decode c_M_ring 48 = .ok (.irem, 1) ∧ 48 + 1 = 49 := by decide +kernel
theorem d_M_ring_49 : decode c_M_ring 49 = .ok (.iaload, 1) ∧ 49 + 1 = 50 := by decide +kernel
theorem d_M_ring_50 : decode c_M_ring 50 = .ok (.iadd, 1) ∧ 50 + 1 = 51 := by decide +kernel
theorem d_M_ring_51 : decode c_M_ring 51 = .ok (.iaload, 1) ∧ 51 + 1 = 52 := by decide +kernel
theorem d_M_ring_52 : decode c_M_ring 52 = .ok (.invokestatic 257, 3) ∧ 52 + 3 = 55 := by decide +kernel
theorem d_M_ring_55 : decode c_M_ring 55 = .ok (.istore_n 2, 1) ∧ 55 + 1 = 56 := by decide +kernel
theorem d_M_ring_56 : decode c_M_ring 56 = .ok (.iinc 3 1, 3) ∧ 56 + 3 = 59 := by decide +kernel
theorem d_M_ring_59 : decode c_M_ring 59 = .ok (.goto (-44), 3) ∧ (59 : Int) + (-44) = (15 : Int) := by decide +kernel
theorem d_M_ring_62 : decode c_M_ring 62 = .ok (.iconst 0, 1) ∧ 62 + 1 = 63 := by decide +kernel
theorem d_M_ring_63 : decode c_M_ring 63 = .ok (.istore_n 3, 1) ∧ 63 + 1 = 64 := by decide +kernel
theorem d_M_ring_64 : decode c_M_ring 64 = .ok (.iload_n 3, 1) ∧ 64 + 1 = 65 := by decide +kernel
theorem d_M_ring_65 : decode c_M_ring 65 = .ok (.aload_n 0, 1) ∧ 65 + 1 = 66 := by decide +kernel
theorem d_M_ring_66 : decode c_M_ring 66 = .ok (.getfield 411, 3) ∧ 66 + 3 = 69 := by decide +kernel
theorem d_M_ring_69 : decode c_M_ring 69 = .ok (.if_icmp .ge 41, 3) ∧ 69 + 3 = 72 ∧ ((69 : Nat) : Int) + 41 = ((110 : Nat) : Int) := by decide +kernel
theorem d_M_ring_72 : decode c_M_ring 72 = .ok (.aload_n 0, 1) ∧ 72 + 1 = 73 := by decide +kernel
theorem d_M_ring_73 : decode c_M_ring 73 = .ok (.getfield 134, 3) ∧ 73 + 3 = 76 := by decide +kernel
theorem d_M_ring_76 : decode c_M_ring 76 = .ok (.bipush 10, 2) ∧ 76 + 2 = 78 := by decide +kernel
theorem d_M_ring_78 : decode c_M_ring 78 = .ok (.aload_n 0, 1) ∧ 78 + 1 = 79 := by decide +kernel
theorem d_M_ring_79 : decode c_M_ring 79 = .ok (.getfield 143, 3) ∧ 79 + 3 = 82 := by decide +kernel
theorem d_M_ring_82 : decode c_M_ring 82 = .ok (.iload_n 3, 1) ∧ 82 + 1 = 83 := by decide +kernel
theorem d_M_ring_83 : decode c_M_ring 83 = .ok (.iaload, 1) ∧ 83 + 1 = 84 := by decide +kernel
theorem d_M_ring_84 : decode c_M_ring 84 = .ok (.imul, 1) ∧ 84 + 1 = 85 := by decide +kernel
theorem d_M_ring_85 : decode c_M_ring 85 = .ok (.aload_n 0, 1) ∧ 85 + 1 = 86 := by decide +kernel
theorem d_M_ring_86 : decode c_M_ring 86 = .ok (.getfield 143, 3) ∧ 86 + 3 = 89 := by decide +kernel
theorem d_M_ring_89 : decode c_M_ring 89 = .ok (.iload_n 3, 1) ∧ 89 + 1 = 90 := by decide +kernel
theorem d_M_ring_90 : decode c_M_ring 90 = .ok (.iconst 1, 1) ∧ 90 + 1 = 91 := by decide +kernel
theorem d_M_ring_91 : decode c_M_ring 91 = .ok (.iadd, 1) ∧ 91 + 1 = 92 := by decide +kernel
theorem d_M_ring_92 : decode c_M_ring 92 = .ok (.aload_n 0, 1) ∧ 92 + 1 = 93 := by decide +kernel
theorem d_M_ring_93 : decode c_M_ring 93 = .ok (.getfield 411, 3) ∧ 93 + 3 = 96 := by decide +kernel
theorem d_M_ring_96 : decode c_M_ring 96 = .ok (.irem, 1) ∧ 96 + 1 = 97 := by decide +kernel
theorem d_M_ring_97 : decode c_M_ring 97 = .ok (.iaload, 1) ∧ 97 + 1 = 98 := by decide +kernel
theorem d_M_ring_98 : decode c_M_ring 98 = .ok (.iadd, 1) ∧ 98 + 1 = 99 := by decide +kernel
theorem d_M_ring_99 : decode c_M_ring 99 = .ok (.dup2, 1) ∧ 99 + 1 = 100 := by decide +kernel
theorem d_M_ring_100 : decode c_M_ring 100 = .ok (.iaload, 1) ∧ 100 + 1 = 101 := by decide +kernel
theorem d_M_ring_101 : decode c_M_ring 101 = .ok (.iload_n 2, 1) ∧ 101 + 1 = 102 := by decide +kernel
theorem d_M_ring_102 : decode c_M_ring 102 = .ok (.isub, 1) ∧ 102 + 1 = 103 := by decide +kernel
theorem d_M_ring_103 : decode c_M_ring 103 = .ok (.iastore, 1) ∧ 103 + 1 = 104 := by decide +kernel
theorem d_M_ring_104 : decode c_M_ring 104 = .ok (.iinc 3 1, 3) ∧ 104 + 3 = 107 := by decide +kernel
theorem d_M_ring_107 : decode c_M_ring 107 = .ok (.goto (-43), 3) ∧ (107 : Int) + (-43) = (64 : Int) := by decide +kernel
theorem d_M_ring_110 : decode c_M_ring 110 = .ok (.iload_n 1, 1) ∧ 110 + 1 = 111 := by decide +kernel
theorem d_M_ring_111 : decode c_M_ring 111 = .ok (.iload_n 2, 1) ∧ 111 + 1 = 112 := by decide +kernel
theorem d_M_ring_112 : decode c_M_ring 112 = .ok (.aload_n 0, 1) ∧ 112 + 1 = 113 := by decide +kernel
theorem d_M_ring_113 : decode c_M_ring 113 = .ok (.getfield 411, 3) ∧ 113 + 3 = 116 := by decide +kernel
theorem d_M_ring_116 : decode c_M_ring 116 = .ok (.imul, 1) ∧ 116 + 1 = 117 := by decide +kernel
theorem d_M_ring_117 : decode c_M_ring 117 = .ok (.iadd, 1) ∧ 117 + 1 = 118 := by decide +kernel
theorem d_M_ring_118 : decode c_M_ring 118 = .ok (.istore_n 1, 1) ∧ 118 + 1 = 119 := by decide +kernel
theorem d_M_ring_119 : decode c_M_ring 119 = .ok (.goto (-117), 3) ∧ (119 : Int) + (-117) = (2 : Int) := by decide +kernel
theorem d_M_ring_122 : decode c_M_ring 122 = .ok (.iload_n 1, 1) ∧ 122 + 1 = 123 := by decide +kernel
theorem d_M_ring_123 : decode c_M_ring 123 = .ok (.ireturn, 1) ∧ 123 + 1 = 124 := by decide +kernel
set_option maxHeartbeats 4000000 in
theorem w_M_ring_L64 {Z : Sy} {Γ : Nat → List (Nat × Value) → List Value → St → Prop} {res : (Int32 × St)} {x1 : Int32} {x2 : Int32} {k2 : Int32 → St → Option (Int32 × St)} (h : IsG YM Z R_M c_M_ring 4 4 (some .int) (some (.int res.1)) res.2 Γ) (hk2 : ∀ (x1 : Int32) (σ : St), k2 x1 σ = some res → Γ 2 [(0, .ref (ya Z 0)), (1, .int x1)] [] σ) : ∀ (n : Nat) (x3 : Int32) (σ : St), M_ring_L64 x1 x2 k2 n x3 σ = some res → Γ 64 [(0, .ref (ya Z 0)), (1, .int x1), (2, .int x2), (3, .int x3)] [] σ := by
  intro n
  induction n with
  | zero => intro x3 σ hf; exact absurd hf (by simp [M_ring_L64])
  | succ n ih =>
    intro x3 σ hf
    rw [M_ring_L64] at hf
    refine r_iload_n h d_M_ring_64 3 rfl rfl ?_
    refine r_aload_n h d_M_ring_65 0 rfl rfl ?_
    refine r_getI h fd_YM_0_56 cf_M fl_M_411 d_M_ring_66 ?_
    refine r_icmp_ge h d_M_ring_69 hf (fun hf => ?_) (fun hf => ?_)
    · refine r_iload_n h d_M_ring_110 1 rfl rfl ?_
      refine r_iload_n h d_M_ring_111 2 rfl rfl ?_
      refine r_aload_n h d_M_ring_112 0 rfl rfl ?_
      refine r_getI h fd_YM_0_56 cf_M fl_M_411 d_M_ring_113 ?_
      refine r_imul h d_M_ring_116 ?_
      refine r_iadd h d_M_ring_117 ?_
      refine r_istore_n (ls' := [(1, .int (x1 + (x2 * (σ.1 0 56)))), (0, .ref (ya Z 0)), (2, .int x2), (3, .int x3)]) h d_M_ring_118 rfl (by decide) rfl ?_
      refine r_goto h d_M_ring_119 ?_
      refine r_sub h [1, 0] rfl ?_
      exact hk2 _ _ hf
    · refine r_aload_n h d_M_ring_72 0 rfl rfl ?_
      refine r_getR h fd_YM_0_53 cf_M fl_M_134 d_M_ring_73 ?_
      refine r_bipush h d_M_ring_76 kb_10 ?_
      refine r_aload_n h d_M_ring_78 0 rfl rfl ?_
      refine r_getR h fd_YM_0_57 cf_M fl_M_143 d_M_ring_79 ?_
      refine r_iload_n h d_M_ring_82 3 rfl rfl ?_
      refine r_iald h sh_YM_45 d_M_ring_83 hf (fun hf => ?_)
      refine r_imul h d_M_ring_84 ?_
      refine r_aload_n h d_M_ring_85 0 rfl rfl ?_
      refine r_getR h fd_YM_0_57 cf_M fl_M_143 d_M_ring_86 ?_
      refine r_iload_n h d_M_ring_89 3 rfl rfl ?_
      refine r_iconst h d_M_ring_90 ki_1 ?_
      refine r_iadd h d_M_ring_91 ?_
      refine r_aload_n h d_M_ring_92 0 rfl rfl ?_
      refine r_getI h fd_YM_0_56 cf_M fl_M_411 d_M_ring_93 ?_
      refine q_div hf (fun hne hf => ?_)
      refine r_irem h d_M_ring_96 hne ?_
      refine r_iald h sh_YM_45 d_M_ring_97 hf (fun hf => ?_)
      refine r_iadd h d_M_ring_98 ?_
      refine r_dup2 h d_M_ring_99 rfl rfl ?_
      refine r_iald h sh_YM_42 d_M_ring_100 hf (fun hf => ?_)
      refine r_iload_n h d_M_ring_101 2 rfl rfl ?_
      refine r_isub h d_M_ring_102 ?_
      refine r_iast h sh_YM_42 d_M_ring_103 hf (fun hf => ?_)
      refine r_iinc (ls' := [(3, .int (x3 + (1 : Int32))), (0, .ref (ya Z 0)), (1, .int x1), (2, .int x2)]) h d_M_ring_104 3 rfl ki_1 (by decide) rfl ?_
      refine r_goto h d_M_ring_107 ?_
      refine r_sub h [1, 2, 3, 0] rfl ?_
      exact ih _ _ hf

set_option maxHeartbeats 4000000 in
theorem w_M_ring_L15 {Z : Sy} {Γ : Nat → List (Nat × Value) → List Value → St → Prop} {res : (Int32 × St)} {x1 : Int32} {σ : St} {k2 : Int32 → St → Option (Int32 × St)} (h : IsG YM Z R_M c_M_ring 4 4 (some .int) (some (.int res.1)) res.2 Γ) (hk2 : ∀ (x1 : Int32) (σ : St), k2 x1 σ = some res → Γ 2 [(0, .ref (ya Z 0)), (1, .int x1)] [] σ) : ∀ (n : Nat) (x2 : Int32) (x3 : Int32), M_ring_L15 x1 σ k2 n x2 x3 = some res → Γ 15 [(0, .ref (ya Z 0)), (1, .int x1), (2, .int x2), (3, .int x3)] [] σ := by
  intro n
  induction n with
  | zero => intro x2 x3 hf; exact absurd hf (by simp [M_ring_L15])
  | succ n ih =>
    intro x2 x3 hf
    rw [M_ring_L15] at hf
    refine r_iload_n h d_M_ring_15 3 rfl rfl ?_
    refine r_aload_n h d_M_ring_16 0 rfl rfl ?_
    refine r_getI h fd_YM_0_56 cf_M fl_M_411 d_M_ring_17 ?_
    refine r_icmp_ge h d_M_ring_20 hf (fun hf => ?_) (fun hf => ?_)
    · refine r_iconst h d_M_ring_62 ki_0 ?_
      refine r_istore_n (ls' := [(3, .int (0 : Int32)), (0, .ref (ya Z 0)), (1, .int x1), (2, .int x2)]) h d_M_ring_63 rfl (by decide) rfl ?_
      refine r_sub h [1, 2, 3, 0] rfl ?_
      exact w_M_ring_L64 h hk2 _ _ _ hf
    · refine r_iload_n h d_M_ring_23 2 rfl rfl ?_
      refine r_aload_n h d_M_ring_24 0 rfl rfl ?_
      refine r_getR h fd_YM_0_53 cf_M fl_M_134 d_M_ring_25 ?_
      refine r_bipush h d_M_ring_28 kb_10 ?_
      refine r_aload_n h d_M_ring_30 0 rfl rfl ?_
      refine r_getR h fd_YM_0_57 cf_M fl_M_143 d_M_ring_31 ?_
      refine r_iload_n h d_M_ring_34 3 rfl rfl ?_
      refine r_iald h sh_YM_45 d_M_ring_35 hf (fun hf => ?_)
      refine r_imul h d_M_ring_36 ?_
      refine r_aload_n h d_M_ring_37 0 rfl rfl ?_
      refine r_getR h fd_YM_0_57 cf_M fl_M_143 d_M_ring_38 ?_
      refine r_iload_n h d_M_ring_41 3 rfl rfl ?_
      refine r_iconst h d_M_ring_42 ki_1 ?_
      refine r_iadd h d_M_ring_43 ?_
      refine r_aload_n h d_M_ring_44 0 rfl rfl ?_
      refine r_getI h fd_YM_0_56 cf_M fl_M_411 d_M_ring_45 ?_
      refine q_div hf (fun hne hf => ?_)
      refine r_irem h d_M_ring_48 hne ?_
      refine r_iald h sh_YM_45 d_M_ring_49 hf (fun hf => ?_)
      refine r_iadd h d_M_ring_50 ?_
      refine r_iald h sh_YM_42 d_M_ring_51 hf (fun hf => ?_)
      obtain ⟨r52, e52, hf⟩ := q_bind hf
      refine r_callS (As := [.int x2, .int (σ.1 42 (Int32.toNatClampNeg (((10 : Int32) * (σ.1 45 (Int32.toNatClampNeg x3))) + (σ.1 45 (Int32.toNatClampNeg ((x3 + (1 : Int32)) - (x3 + (1 : Int32)) / (σ.1 0 56) * (σ.1 0 56)))))))]) (rest := []) h lk_M_257 sk_M_257 d_M_ring_52 (by decide) rfl rfl (Nat.le_of_ble_eq_true rfl) (m_M_lesser e52) ?_
      refine r_istore_n (ls' := [(2, .int r52), (0, .ref (ya Z 0)), (1, .int x1), (3, .int x3)]) h d_M_ring_55 rfl (by decide) rfl ?_
      refine r_iinc (ls' := [(3, .int (x3 + (1 : Int32))), (2, .int r52), (0, .ref (ya Z 0)), (1, .int x1)]) h d_M_ring_56 3 rfl ki_1 (by decide) rfl ?_
      refine r_goto h d_M_ring_59 ?_
      refine r_sub h [2, 3, 1, 0] rfl ?_
      exact ih _ _ hf

set_option maxHeartbeats 4000000 in
theorem w_M_ring_L2 {Z : Sy} {Γ : Nat → List (Nat × Value) → List Value → St → Prop} {res : (Int32 × St)} (h : IsG YM Z R_M c_M_ring 4 4 (some .int) (some (.int res.1)) res.2 Γ) : ∀ (n : Nat) (x1 : Int32) (σ : St), M_ring_L2 n x1 σ = some res → Γ 2 [(0, .ref (ya Z 0)), (1, .int x1)] [] σ := by
  intro n
  induction n with
  | zero => intro x1 σ hf; exact absurd hf (by simp [M_ring_L2])
  | succ n ih =>
    intro x1 σ hf
    rw [M_ring_L2] at hf
    refine r_aload_n h d_M_ring_2 0 rfl rfl ?_
    obtain ⟨q3, e3, hf⟩ := q_bind hf
    refine r_callV (As := []) (rest := []) h sh_YM_0 lk_M_418 vk_M_418 d_M_ring_3 (by decide) rfl rfl (Nat.le_of_ble_eq_true rfl) (m_M_findRing e3) ?_
    refine r_bif_eq h d_M_ring_6 hf (fun hf => ?_) (fun hf => ?_)
    · refine r_iload_n h d_M_ring_122 1 rfl rfl ?_
      exact r_ireturn h d_M_ring_123.1 (q_p1 hf) (q_p2 hf)
    · refine r_ldcw h d_M_ring_9 tm_1720 ?_
      refine r_istore_n (ls' := [(2, .int (100000 : Int32)), (0, .ref (ya Z 0)), (1, .int x1)]) h d_M_ring_12 rfl (by decide) rfl ?_
      refine r_iconst h d_M_ring_13 ki_0 ?_
      refine r_istore_n (ls' := [(3, .int (0 : Int32)), (2, .int (100000 : Int32)), (0, .ref (ya Z 0)), (1, .int x1)]) h d_M_ring_14 rfl (by decide) rfl ?_
      refine r_sub h [2, 3, 1, 0] rfl ?_
      exact w_M_ring_L15 h (fun y1 τ hf => ih y1 τ hf) _ _ _ hf

set_option maxHeartbeats 4000000 in
theorem m_M_ring {Z : Sy} {σ : St} {res : (Int32 × St)} (hf : M_ring  σ = some res) : Ct YM Z y_M_ring c_M_ring 4 (some .int) 4 [.ref (ya Z 0)] σ (some (.int res.1)) res.2 := by
  refine Ct.of pn_M (Nat.le_of_ble_eq_true rfl) rfl (fun Γ h => ?_)
  have h : IsG YM Z R_M c_M_ring 4 4 (some .int) (some (.int res.1)) res.2 Γ := h
  unfold M_ring at hf
  refine r_iconst h d_M_ring_0 ki_0 ?_
  refine r_istore_n (ls' := [(1, .int (0 : Int32)), (0, .ref (ya Z 0))]) h d_M_ring_1 rfl (by decide) rfl ?_
  refine r_sub h [1, 0] rfl ?_
  exact w_M_ring_L2 h _ _ _ hf

theorem d_M_party_0 : decode c_M_party 0 = .ok (.iload_n 1, 1) ∧ 0 + 1 = 1 := by decide +kernel
theorem d_M_party_1 : decode c_M_party 1 = .ok (.invokestatic 402, 3) ∧ 1 + 3 = 4 := by decide +kernel
theorem d_M_party_4 : decode c_M_party 4 = .ok (.ifCond .eq 35, 3) ∧ 4 + 3 = 7 ∧ ((4 : Nat) : Int) + 35 = ((39 : Nat) : Int) := by decide +kernel
theorem d_M_party_7 : decode c_M_party 7 = .ok (.iload_n 2, 1) ∧ 7 + 1 = 8 := by decide +kernel
theorem d_M_party_8 : decode c_M_party 8 = .ok (.i2l, 1) ∧ 8 + 1 = 9 := by decide +kernel
theorem d_M_party_9 : decode c_M_party 9 = .ok (.lconst 0, 1) ∧ 9 + 1 = 10 := by decide +kernel
theorem d_M_party_10 : decode c_M_party 10 = .ok (.lconst 1, 1) ∧ 10 + 1 = 11 := by decide +kernel
theorem d_M_party_11 : decode c_M_party 11 = .ok (.invokestatic 201, 3) ∧ 11 + 3 = 14 := by decide +kernel
theorem d_M_party_14 : decode c_M_party 14 = .ok (.ifCond .eq 25, 3) ∧ 14 + 3 = 17 ∧ ((14 : Nat) : Int) + 25 = ((39 : Nat) : Int) := by decide +kernel
theorem d_M_party_17 : decode c_M_party 17 = .ok (.iload_n 3, 1) ∧ 17 + 1 = 18 := by decide +kernel
theorem d_M_party_18 : decode c_M_party 18 = .ok (.i2l, 1) ∧ 18 + 1 = 19 := by decide +kernel
theorem d_M_party_19 : decode c_M_party 19 = .ok (.lconst 0, 1) ∧ 19 + 1 = 20 := by decide +kernel
theorem d_M_party_20 : decode c_M_party 20 = .ok (.iload_n 2, 1) ∧ 20 + 1 = 21 := by decide +kernel
theorem d_M_party_21 : decode c_M_party 21 = .ok (.ifCond .ne 9, 3) ∧ 21 + 3 = 24 ∧ ((21 : Nat) : Int) + 9 = ((30 : Nat) : Int) := by decide +kernel
theorem d_M_party_24 : decode c_M_party 24 = .ok (.ldc2_w 395, 3) ∧ 24 + 3 = 27 := by decide +kernel
theorem d_M_party_27 : decode c_M_party 27 = .ok (.goto 6, 3) ∧ (27 : Int) + 6 = (33 : Int) := by decide +kernel
theorem d_M_party_30 : decode c_M_party 30 = .ok (.ldc2_w 266, 3) ∧ 30 + 3 = 33 := by decide +kernel
theorem d_M_party_33 : decode c_M_party 33 = .ok (.invokestatic 201, 3) ∧ 33 + 3 = 36 := by decide +kernel
theorem d_M_party_36 : decode c_M_party 36 = .ok (.ifCond .ne 6, 3) ∧ 36 + 3 = 39 ∧ ((36 : Nat) : Int) + 6 = ((42 : Nat) : Int) := by decide +kernel
theorem d_M_party_39 : decode c_M_party 39 = .ok (.bipush (-2), 2) ∧ 39 + 2 = 41 := by decide +kernel
theorem d_M_party_41 : decode c_M_party 41 = .ok (.ireturn, 1) ∧ 41 + 1 = 42 := by decide +kernel
theorem d_M_party_42 : decode c_M_party 42 = .ok (.iload_n 2, 1) ∧ 42 + 1 = 43 := by decide +kernel
theorem d_M_party_43 : decode c_M_party 43 = .ok (.ifCond .ne 12, 3) ∧ 43 + 3 = 46 ∧ ((43 : Nat) : Int) + 12 = ((55 : Nat) : Int) := by decide +kernel
theorem d_M_party_46 : decode c_M_party 46 = .ok (.aload_n 0, 1) ∧ 46 + 1 = 47 := by decide +kernel
theorem d_M_party_47 : decode c_M_party 47 = .ok (.getfield 137, 3) ∧ 47 + 3 = 50 := by decide +kernel
theorem d_M_party_50 : decode c_M_party 50 = .ok (.iload_n 1, 1) ∧ 50 + 1 = 51 := by decide +kernel
theorem d_M_party_51 : decode c_M_party 51 = .ok (.iaload, 1) ∧ 51 + 1 = 52 := by decide +kernel
theorem d_M_party_52 : decode c_M_party 52 = .ok (.goto 9, 3) ∧ (52 : Int) + 9 = (61 : Int) := by decide +kernel
theorem d_M_party_55 : decode c_M_party 55 = .ok (.aload_n 0, 1) ∧ 55 + 1 = 56 := by decide +kernel
theorem d_M_party_56 : decode c_M_party 56 = .ok (.getfield 140, 3) ∧ 56 + 3 = 59 := by decide +kernel
theorem d_M_party_59 : decode c_M_party 59 = .ok (.iload_n 1, 1) ∧ 59 + 1 = 60 := by decide +kernel
theorem d_M_party_60 : decode c_M_party 60 = .ok (.iaload, 1) ∧ 60 + 1 = 61 := by decide +kernel
theorem d_M_party_61 : decode c_M_party 61 = .ok (.istore 4, 2) ∧ 61 + 2 = 63 := by decide +kernel
theorem d_M_party_63 : decode c_M_party 63 = .ok (.iload_n 2, 1) ∧ 63 + 1 = 64 := by decide +kernel
theorem d_M_party_64 : decode c_M_party 64 = .ok (.ifCond .ne 13, 3) ∧ 64 + 3 = 67 ∧ ((64 : Nat) : Int) + 13 = ((77 : Nat) : Int) := by decide +kernel
theorem d_M_party_67 : decode c_M_party 67 = .ok (.aload_n 0, 1) ∧ 67 + 1 = 68 := by decide +kernel
theorem d_M_party_68 : decode c_M_party 68 = .ok (.getfield 137, 3) ∧ 68 + 3 = 71 := by decide +kernel
theorem d_M_party_71 : decode c_M_party 71 = .ok (.iload_n 1, 1) ∧ 71 + 1 = 72 := by decide +kernel
theorem d_M_party_72 : decode c_M_party 72 = .ok (.iload_n 3, 1) ∧ 72 + 1 = 73 := by decide +kernel
theorem d_M_party_73 : decode c_M_party 73 = .ok (.iastore, 1) ∧ 73 + 1 = 74 := by decide +kernel
theorem d_M_party_74 : decode c_M_party 74 = .ok (.goto 10, 3) ∧ (74 : Int) + 10 = (84 : Int) := by decide +kernel
theorem d_M_party_77 : decode c_M_party 77 = .ok (.aload_n 0, 1) ∧ 77 + 1 = 78 := by decide +kernel
theorem d_M_party_78 : decode c_M_party 78 = .ok (.getfield 140, 3) ∧ 78 + 3 = 81 := by decide +kernel
theorem d_M_party_81 : decode c_M_party 81 = .ok (.iload_n 1, 1) ∧ 81 + 1 = 82 := by decide +kernel
theorem d_M_party_82 : decode c_M_party 82 = .ok (.iload_n 3, 1) ∧ 82 + 1 = 83 := by decide +kernel
theorem d_M_party_83 : decode c_M_party 83 = .ok (.iastore, 1) ∧ 83 + 1 = 84 := by decide +kernel
theorem d_M_party_84 : decode c_M_party 84 = .ok (.iload 4, 2) ∧ 84 + 2 = 86 := by decide +kernel
theorem d_M_party_86 : decode c_M_party 86 = .ok (.ireturn, 1) ∧ 86 + 1 = 87 := by decide +kernel
set_option maxHeartbeats 4000000 in
theorem m_M_party {Z : Sy} {σ : St} {res : (Int32 × St)} {x1 : Int32} {x2 : Int32} {x3 : Int32} (hf : M_party x1 x2 x3 σ = some res) : Ct YM Z y_M_party c_M_party 5 (some .int) 3 [.ref (ya Z 0), .int x1, .int x2, .int x3] σ (some (.int res.1)) res.2 := by
  refine Ct.of pn_M (Nat.le_of_ble_eq_true rfl) rfl (fun Γ h => ?_)
  have h : IsG YM Z R_M c_M_party 5 3 (some .int) (some (.int res.1)) res.2 Γ := h
  unfold M_party at hf
  refine r_iload_n h d_M_party_0 1 rfl rfl ?_
  obtain ⟨r1, e1, hf⟩ := q_bind hf
  refine r_callS (As := [.int x1]) (rest := []) h lk_M_402 sk_M_402 d_M_party_1 (by decide) rfl rfl (Nat.le_of_ble_eq_true rfl) (m_M_isParty e1) ?_
  refine r_bif_eq h d_M_party_4 hf (fun hf => ?_) (fun hf => ?_)
  · refine r_bipush h d_M_party_39 kb_m2 ?_
    exact r_ireturn h d_M_party_41.1 (q_p1 hf) (q_p2 hf)
  · refine r_iload_n h d_M_party_7 2 rfl rfl ?_
    refine r_i2l h d_M_party_8 ?_
    refine r_lconst h d_M_party_9 kl_0 ?_
    refine r_lconst h d_M_party_10 kl_1 ?_
    obtain ⟨r11, e11, hf⟩ := q_bind hf
    refine r_callS (As := [.long (Int32.toInt64 x2), .long (0 : Int64), .long (1 : Int64)]) (rest := []) h lk_M_201 sk_M_201 d_M_party_11 (by decide) rfl rfl (Nat.le_of_ble_eq_true rfl) (m_M_in e11) ?_
    refine r_bif_eq h d_M_party_14 hf (fun hf => ?_) (fun hf => ?_)
    · refine r_bipush h d_M_party_39 kb_m2 ?_
      exact r_ireturn h d_M_party_41.1 (q_p1 hf) (q_p2 hf)
    · refine r_iload_n h d_M_party_17 3 rfl rfl ?_
      refine r_i2l h d_M_party_18 ?_
      refine r_lconst h d_M_party_19 kl_0 ?_
      refine r_iload_n h d_M_party_20 2 rfl rfl ?_
      refine r_if_ne h d_M_party_21 hf (fun hf => ?_) (fun hf => ?_)
      · refine r_ldc2 h d_M_party_30 tm_1478 ?_
        obtain ⟨r33, e33, hf⟩ := q_bind hf
        refine r_callS (As := [.long (Int32.toInt64 x3), .long (0 : Int64), .long (2 : Int64)]) (rest := []) h lk_M_201 sk_M_201 d_M_party_33 (by decide) rfl rfl (Nat.le_of_ble_eq_true rfl) (m_M_in e33) ?_
        refine r_bif_ne h d_M_party_36 hf (fun hf => ?_) (fun hf => ?_)
        · refine r_iload_n h d_M_party_42 2 rfl rfl ?_
          refine r_if_ne h d_M_party_43 hf (fun hf => ?_) (fun hf => ?_)
          · refine r_aload_n h d_M_party_55 0 rfl rfl ?_
            refine r_getR h fd_YM_0_55 cf_M fl_M_140 d_M_party_56 ?_
            refine r_iload_n h d_M_party_59 1 rfl rfl ?_
            refine r_iald h sh_YM_44 d_M_party_60 hf (fun hf => ?_)
            refine r_istore (ls' := [(4, .int (σ.1 44 (Int32.toNatClampNeg x1))), (0, .ref (ya Z 0)), (1, .int x1), (2, .int x2), (3, .int x3)]) h d_M_party_61 (by decide) rfl ?_
            refine r_iload_n h d_M_party_63 3 rfl rfl ?_
            refine r_if_ne h d_M_party_64 hf (fun hf => ?_) (fun hf => ?_)
            · refine r_aload_n h d_M_party_77 1 rfl rfl ?_
              refine r_getR h fd_YM_0_55 cf_M fl_M_140 d_M_party_78 ?_
              refine r_iload_n h d_M_party_81 2 rfl rfl ?_
              refine r_iload_n h d_M_party_82 4 rfl rfl ?_
              refine r_iast h sh_YM_44 d_M_party_83 hf (fun hf => ?_)
              refine r_iload h d_M_party_84 0 rfl ?_
              exact r_ireturn h d_M_party_86.1 (q_p1 hf) (q_p2 hf)
            · refine r_aload_n h d_M_party_67 1 rfl rfl ?_
              refine r_getR h fd_YM_0_54 cf_M fl_M_137 d_M_party_68 ?_
              refine r_iload_n h d_M_party_71 2 rfl rfl ?_
              refine r_iload_n h d_M_party_72 4 rfl rfl ?_
              refine r_iast h sh_YM_43 d_M_party_73 hf (fun hf => ?_)
              refine r_goto h d_M_party_74 ?_
              refine r_iload h d_M_party_84 0 rfl ?_
              exact r_ireturn h d_M_party_86.1 (q_p1 hf) (q_p2 hf)
          · refine r_aload_n h d_M_party_46 0 rfl rfl ?_
            refine r_getR h fd_YM_0_54 cf_M fl_M_137 d_M_party_47 ?_
            refine r_iload_n h d_M_party_50 1 rfl rfl ?_
            refine r_iald h sh_YM_43 d_M_party_51 hf (fun hf => ?_)
            refine r_goto h d_M_party_52 ?_
            refine r_istore (ls' := [(4, .int (σ.1 43 (Int32.toNatClampNeg x1))), (0, .ref (ya Z 0)), (1, .int x1), (2, .int x2), (3, .int x3)]) h d_M_party_61 (by decide) rfl ?_
            refine r_iload_n h d_M_party_63 3 rfl rfl ?_
            refine r_if_ne h d_M_party_64 hf (fun hf => ?_) (fun hf => ?_)
            · refine r_aload_n h d_M_party_77 1 rfl rfl ?_
              refine r_getR h fd_YM_0_55 cf_M fl_M_140 d_M_party_78 ?_
              refine r_iload_n h d_M_party_81 2 rfl rfl ?_
              refine r_iload_n h d_M_party_82 4 rfl rfl ?_
              refine r_iast h sh_YM_44 d_M_party_83 hf (fun hf => ?_)
              refine r_iload h d_M_party_84 0 rfl ?_
              exact r_ireturn h d_M_party_86.1 (q_p1 hf) (q_p2 hf)
            · refine r_aload_n h d_M_party_67 1 rfl rfl ?_
              refine r_getR h fd_YM_0_54 cf_M fl_M_137 d_M_party_68 ?_
              refine r_iload_n h d_M_party_71 2 rfl rfl ?_
              refine r_iload_n h d_M_party_72 4 rfl rfl ?_
              refine r_iast h sh_YM_43 d_M_party_73 hf (fun hf => ?_)
              refine r_goto h d_M_party_74 ?_
              refine r_iload h d_M_party_84 0 rfl ?_
              exact r_ireturn h d_M_party_86.1 (q_p1 hf) (q_p2 hf)
        · refine r_bipush h d_M_party_39 kb_m2 ?_
          exact r_ireturn h d_M_party_41.1 (q_p1 hf) (q_p2 hf)
      · refine r_ldc2 h d_M_party_24 tm_1671 ?_
        refine r_goto h d_M_party_27 ?_
        obtain ⟨r33, e33, hf⟩ := q_bind hf
        refine r_callS (As := [.long (Int32.toInt64 x3), .long (0 : Int64), .long (99999 : Int64)]) (rest := []) h lk_M_201 sk_M_201 d_M_party_33 (by decide) rfl rfl (Nat.le_of_ble_eq_true rfl) (m_M_in e33) ?_
        refine r_bif_ne h d_M_party_36 hf (fun hf => ?_) (fun hf => ?_)
        · refine r_iload_n h d_M_party_42 2 rfl rfl ?_
          refine r_if_ne h d_M_party_43 hf (fun hf => ?_) (fun hf => ?_)
          · refine r_aload_n h d_M_party_55 0 rfl rfl ?_
            refine r_getR h fd_YM_0_55 cf_M fl_M_140 d_M_party_56 ?_
            refine r_iload_n h d_M_party_59 1 rfl rfl ?_
            refine r_iald h sh_YM_44 d_M_party_60 hf (fun hf => ?_)
            refine r_istore (ls' := [(4, .int (σ.1 44 (Int32.toNatClampNeg x1))), (0, .ref (ya Z 0)), (1, .int x1), (2, .int x2), (3, .int x3)]) h d_M_party_61 (by decide) rfl ?_
            refine r_iload_n h d_M_party_63 3 rfl rfl ?_
            refine r_if_ne h d_M_party_64 hf (fun hf => ?_) (fun hf => ?_)
            · refine r_aload_n h d_M_party_77 1 rfl rfl ?_
              refine r_getR h fd_YM_0_55 cf_M fl_M_140 d_M_party_78 ?_
              refine r_iload_n h d_M_party_81 2 rfl rfl ?_
              refine r_iload_n h d_M_party_82 4 rfl rfl ?_
              refine r_iast h sh_YM_44 d_M_party_83 hf (fun hf => ?_)
              refine r_iload h d_M_party_84 0 rfl ?_
              exact r_ireturn h d_M_party_86.1 (q_p1 hf) (q_p2 hf)
            · refine r_aload_n h d_M_party_67 1 rfl rfl ?_
              refine r_getR h fd_YM_0_54 cf_M fl_M_137 d_M_party_68 ?_
              refine r_iload_n h d_M_party_71 2 rfl rfl ?_
              refine r_iload_n h d_M_party_72 4 rfl rfl ?_
              refine r_iast h sh_YM_43 d_M_party_73 hf (fun hf => ?_)
              refine r_goto h d_M_party_74 ?_
              refine r_iload h d_M_party_84 0 rfl ?_
              exact r_ireturn h d_M_party_86.1 (q_p1 hf) (q_p2 hf)
          · refine r_aload_n h d_M_party_46 0 rfl rfl ?_
            refine r_getR h fd_YM_0_54 cf_M fl_M_137 d_M_party_47 ?_
            refine r_iload_n h d_M_party_50 1 rfl rfl ?_
            refine r_iald h sh_YM_43 d_M_party_51 hf (fun hf => ?_)
            refine r_goto h d_M_party_52 ?_
            refine r_istore (ls' := [(4, .int (σ.1 43 (Int32.toNatClampNeg x1))), (0, .ref (ya Z 0)), (1, .int x1), (2, .int x2), (3, .int x3)]) h d_M_party_61 (by decide) rfl ?_
            refine r_iload_n h d_M_party_63 3 rfl rfl ?_
            refine r_if_ne h d_M_party_64 hf (fun hf => ?_) (fun hf => ?_)
            · refine r_aload_n h d_M_party_77 1 rfl rfl ?_
              refine r_getR h fd_YM_0_55 cf_M fl_M_140 d_M_party_78 ?_
              refine r_iload_n h d_M_party_81 2 rfl rfl ?_
              refine r_iload_n h d_M_party_82 4 rfl rfl ?_
              refine r_iast h sh_YM_44 d_M_party_83 hf (fun hf => ?_)
              refine r_iload h d_M_party_84 0 rfl ?_
              exact r_ireturn h d_M_party_86.1 (q_p1 hf) (q_p2 hf)
            · refine r_aload_n h d_M_party_67 1 rfl rfl ?_
              refine r_getR h fd_YM_0_54 cf_M fl_M_137 d_M_party_68 ?_
              refine r_iload_n h d_M_party_71 2 rfl rfl ?_
              refine r_iload_n h d_M_party_72 4 rfl rfl ?_
              refine r_iast h sh_YM_43 d_M_party_73 hf (fun hf => ?_)
              refine r_goto h d_M_party_74 ?_
              refine r_iload h d_M_party_84 0 rfl ?_
              exact r_ireturn h d_M_party_86.1 (q_p1 hf) (q_p2 hf)
        · refine r_bipush h d_M_party_39 kb_m2 ?_
          exact r_ireturn h d_M_party_41.1 (q_p1 hf) (q_p2 hf)

theorem d_M_payFrom_0 : decode c_M_payFrom 0 = .ok (.aload_n 0, 1) ∧ 0 + 1 = 1 := by decide +kernel
theorem d_M_payFrom_1 : decode c_M_payFrom 1 = .ok (.getfield 137, 3) ∧ 1 + 3 = 4 := by decide +kernel
theorem d_M_payFrom_4 : decode c_M_payFrom 4 = .ok (.iload_n 1, 1) ∧ 4 + 1 = 5 := by decide +kernel
theorem d_M_payFrom_5 : decode c_M_payFrom 5 = .ok (.iaload, 1) ∧ 5 + 1 = 6 := by decide +kernel
theorem d_M_payFrom_6 : decode c_M_payFrom 6 = .ok (.i2l, 1) ∧ 6 + 1 = 7 := by decide +kernel
theorem d_M_payFrom_7 : decode c_M_payFrom 7 = .ok (.lstore_n 2, 1) ∧ 7 + 1 = 8 := by decide +kernel
theorem d_M_payFrom_8 : decode c_M_payFrom 8 = .ok (.lconst 0, 1) ∧ 8 + 1 = 9 := by decide +kernel
theorem d_M_payFrom_9 : decode c_M_payFrom 9 = .ok (.lstore 4, 2) ∧ 9 + 2 = 11 := by decide +kernel
theorem d_M_payFrom_11 : decode c_M_payFrom 11 = .ok (.iconst 0, 1) ∧ 11 + 1 = 12 := by decide +kernel
theorem d_M_payFrom_12 : decode c_M_payFrom 12 = .ok (.istore 6, 2) ∧ 12 + 2 = 14 := by decide +kernel
theorem d_M_payFrom_14 : decode c_M_payFrom 14 = .ok (.iload 6, 2) ∧ 14 + 2 = 16 := by decide +kernel
theorem d_M_payFrom_16 : decode c_M_payFrom 16 = .ok (.bipush 10, 2) ∧ 16 + 2 = 18 := by decide +kernel
theorem d_M_payFrom_18 : decode c_M_payFrom 18 = .ok (.if_icmp .ge 43, 3) ∧ 18 + 3 = 21 ∧ ((18 : Nat) : Int) + 43 = ((61 : Nat) : Int) := by decide +kernel
theorem d_M_payFrom_21 : decode c_M_payFrom 21 = .ok (.lload_n 2, 1) ∧ 21 + 1 = 22 := by decide +kernel
theorem d_M_payFrom_22 : decode c_M_payFrom 22 = .ok (.aload_n 0, 1) ∧ 22 + 1 = 23 := by decide +kernel
theorem d_M_payFrom_23 : decode c_M_payFrom 23 = .ok (.getfield 146, 3) ∧ 23 + 3 = 26 := by decide +kernel
theorem d_M_payFrom_26 : decode c_M_payFrom 26 = .ok (.bipush 10, 2) ∧ 26 + 2 = 28 := by decide +kernel
theorem d_M_payFrom_28 : decode c_M_payFrom 28 = .ok (.iload 6, 2) ∧ 28 + 2 = 30 := by decide +kernel
theorem d_M_payFrom_30 : decode c_M_payFrom 30 = .ok (.imul, 1) ∧ 30 + 1 = 31 := by decide +kernel
theorem d_M_payFrom_31 : decode c_M_payFrom 31 = .ok (.iload_n 1, 1) ∧ 31 + 1 = 32 := by decide +kernel
theorem d_M_payFrom_32 : decode c_M_payFrom 32 = .ok (.iadd, 1) ∧ 32 + 1 = 33 := by decide +kernel
theorem d_M_payFrom_33 : decode c_M_payFrom 33 = .ok (.iaload, 1) ∧ 33 + 1 = 34 := by decide +kernel
theorem d_M_payFrom_34 : decode c_M_payFrom 34 = .ok (.i2l, 1) ∧ 34 + 1 = 35 := by decide +kernel
theorem d_M_payFrom_35 : decode c_M_payFrom 35 = .ok (.ladd, 1) ∧ 35 + 1 = 36 := by decide +kernel
theorem d_M_payFrom_36 : decode c_M_payFrom 36 = .ok (.lstore_n 2, 1) ∧ 36 + 1 = 37 := by decide +kernel
theorem d_M_payFrom_37 : decode c_M_payFrom 37 = .ok (.lload 4, 2) ∧ 37 + 2 = 39 := by decide +kernel
theorem d_M_payFrom_39 : decode c_M_payFrom 39 = .ok (.aload_n 0, 1) ∧ 39 + 1 = 40 := by decide +kernel
theorem d_M_payFrom_40 : decode c_M_payFrom 40 = .ok (.getfield 134, 3) ∧ 40 + 3 = 43 := by decide +kernel
theorem d_M_payFrom_43 : decode c_M_payFrom 43 = .ok (.bipush 10, 2) ∧ 43 + 2 = 45 := by decide +kernel
theorem d_M_payFrom_45 : decode c_M_payFrom 45 = .ok (.iload_n 1, 1) ∧ 45 + 1 = 46 := by decide +kernel
theorem d_M_payFrom_46 : decode c_M_payFrom 46 = .ok (.imul, 1) ∧ 46 + 1 = 47 := by decide +kernel
theorem d_M_payFrom_47 : decode c_M_payFrom 47 = .ok (.iload 6, 2) ∧ 47 + 2 = 49 := by decide +kernel
theorem d_M_payFrom_49 : decode c_M_payFrom 49 = .ok (.iadd, 1) ∧ 49 + 1 = 50 := by decide +kernel
theorem d_M_payFrom_50 : decode c_M_payFrom 50 = .ok (.iaload, 1) ∧ 50 + 1 = 51 := by decide +kernel
theorem d_M_payFrom_51 : decode c_M_payFrom 51 = .ok (.i2l, 1) ∧ 51 + 1 = 52 := by decide +kernel
theorem d_M_payFrom_52 : decode c_M_payFrom 52 = .ok (.ladd, 1) ∧ 52 + 1 = 53 := by decide +kernel
theorem d_M_payFrom_53 : decode c_M_payFrom 53 = .ok (.lstore 4, 2) ∧ 53 + 2 = 55 := by decide +kernel
theorem d_M_payFrom_55 : decode c_M_payFrom 55 = .ok (.iinc 6 1, 3) ∧ 55 + 3 = 58 := by decide +kernel
theorem d_M_payFrom_58 : decode c_M_payFrom 58 = .ok (.goto (-44), 3) ∧ (58 : Int) + (-44) = (14 : Int) := by decide +kernel
theorem d_M_payFrom_61 : decode c_M_payFrom 61 = .ok (.iconst 0, 1) ∧ 61 + 1 = 62 := by decide +kernel
theorem d_M_payFrom_62 : decode c_M_payFrom 62 = .ok (.istore 6, 2) ∧ 62 + 2 = 64 := by decide +kernel
theorem d_M_payFrom_64 : decode c_M_payFrom 64 = .ok (.iload 6, 2) ∧ 64 + 2 = 66 := by decide +kernel
theorem d_M_payFrom_66 : decode c_M_payFrom 66 = .ok (.iconst 3, 1) ∧ 66 + 1 = 67 := by decide +kernel
theorem d_M_payFrom_67 : decode c_M_payFrom 67 = .ok (.if_icmp .ge 169, 3) ∧ 67 + 3 = 70 ∧ ((67 : Nat) : Int) + 169 = ((236 : Nat) : Int) := by decide +kernel
theorem d_M_payFrom_70 : decode c_M_payFrom 70 = .ok (.lconst 0, 1) ∧ 70 + 1 = 71 := by decide +kernel
theorem d_M_payFrom_71 : decode c_M_payFrom 71 = .ok (.lstore 7, 2) ∧ 71 + 2 = 73 := by decide +kernel
theorem d_M_payFrom_73 : decode c_M_payFrom 73 = .ok (.iconst 0, 1) ∧ 73 + 1 = 74 := by decide +kernel
theorem d_M_payFrom_74 : decode c_M_payFrom 74 = .ok (.istore 9, 2) ∧ 74 + 2 = 76 := by decide +kernel
theorem d_M_payFrom_76 : decode c_M_payFrom 76 = .ok (.iload 9, 2) ∧ 76 + 2 = 78 := by decide +kernel
theorem d_M_payFrom_78 : decode c_M_payFrom 78 = .ok (.bipush 10, 2) ∧ 78 + 2 = 80 := by decide +kernel
theorem d_M_payFrom_80 : decode c_M_payFrom 80 = .ok (.if_icmp .ge 43, 3) ∧ 80 + 3 = 83 ∧ ((80 : Nat) : Int) + 43 = ((123 : Nat) : Int) := by decide +kernel
theorem d_M_payFrom_83 : decode c_M_payFrom 83 = .ok (.lload 7, 2) ∧ 83 + 2 = 85 := by decide +kernel
theorem d_M_payFrom_85 : decode c_M_payFrom 85 = .ok (.aload_n 0, 1) ∧ 85 + 1 = 86 := by decide +kernel
theorem d_M_payFrom_86 : decode c_M_payFrom 86 = .ok (.getfield 140, 3) ∧ 86 + 3 = 89 := by decide +kernel
theorem d_M_payFrom_89 : decode c_M_payFrom 89 = .ok (.iload 9, 2) ∧ 89 + 2 = 91 := by decide +kernel
theorem d_M_payFrom_91 : decode c_M_payFrom 91 = .ok (.iaload, 1) ∧ 91 + 1 = 92 := by decide +kernel
theorem d_M_payFrom_92 : decode c_M_payFrom 92 = .ok (.iload 6, 2) ∧ 92 + 2 = 94 := by decide +kernel
theorem d_M_payFrom_94 : decode c_M_payFrom 94 = .ok (.if_icmp .ne 19, 3) ∧ 94 + 3 = 97 ∧ ((94 : Nat) : Int) + 19 = ((113 : Nat) : Int) := by decide +kernel
theorem d_M_payFrom_97 : decode c_M_payFrom 97 = .ok (.aload_n 0, 1) ∧ 97 + 1 = 98 := by decide +kernel
theorem d_M_payFrom_98 : decode c_M_payFrom 98 = .ok (.getfield 134, 3) ∧ 98 + 3 = 101 := by decide +kernel
theorem d_M_payFrom_101 : decode c_M_payFrom 101 = .ok (.bipush 10, 2) ∧ 101 + 2 = 103 := by decide +kernel
theorem d_M_payFrom_103 : decode c_M_payFrom 103 = .ok (.iload_n 1, 1) ∧ 103 + 1 = 104 := by decide +kernel
theorem d_M_payFrom_104 : decode c_M_payFrom 104 = .ok (.imul, 1) ∧ 104 + 1 = 105 := by decide +kernel
theorem d_M_payFrom_105 : decode c_M_payFrom 105 = .ok (.iload 9, 2) ∧ 105 + 2 = 107 := by decide +kernel
theorem d_M_payFrom_107 : decode c_M_payFrom 107 = .ok (.iadd, 1) ∧ 107 + 1 = 108 := by decide +kernel
theorem d_M_payFrom_108 : decode c_M_payFrom 108 = .ok (.iaload, 1) ∧ 108 + 1 = 109 := by decide +kernel
theorem d_M_payFrom_109 : decode c_M_payFrom 109 = .ok (.i2l, 1) ∧ 109 + 1 = 110 := by decide +kernel
theorem d_M_payFrom_110 : decode c_M_payFrom 110 = .ok (.goto 4, 3) ∧ (110 : Int) + 4 = (114 : Int) := by decide +kernel
theorem d_M_payFrom_113 : decode c_M_payFrom 113 = .ok (.lconst 0, 1) ∧ 113 + 1 = 114 := by decide +kernel
theorem d_M_payFrom_114 : decode c_M_payFrom 114 = .ok (.ladd, 1) ∧ 114 + 1 = 115 := by decide +kernel
theorem d_M_payFrom_115 : decode c_M_payFrom 115 = .ok (.lstore 7, 2) ∧ 115 + 2 = 117 := by decide +kernel
theorem d_M_payFrom_117 : decode c_M_payFrom 117 = .ok (.iinc 9 1, 3) ∧ 117 + 3 = 120 := by decide +kernel
theorem d_M_payFrom_120 : decode c_M_payFrom 120 = .ok (.goto (-44), 3) ∧ (120 : Int) + (-44) = (76 : Int) := by decide +kernel
theorem d_M_payFrom_123 : decode c_M_payFrom 123 = .ok (.lload_n 2, 1) ∧ 123 + 1 = 124 := by decide +kernel
theorem d_M_payFrom_124 : decode c_M_payFrom 124 = .ok (.lload 7, 2) ∧ 124 + 2 = 126 := by decide +kernel
theorem d_M_payFrom_126 : decode c_M_payFrom 126 = .ok (.lcmp, 1) ∧ 126 + 1 = 127 := by decide +kernel
theorem d_M_payFrom_127 : decode c_M_payFrom 127 = .ok (.ifCond .lt 7, 3) ∧ 127 + 3 = 130 ∧ ((127 : Nat) : Int) + 7 = ((134 : Nat) : Int) := by decide +kernel
theorem d_M_payFrom_130 : decode c_M_payFrom 130 = .ok (.iconst 1, 1) ∧ 130 + 1 = 131 := by decide +kernel
theorem d_M_payFrom_131 : decode c_M_payFrom 131 = .ok (.goto 4, 3) ∧ (131 : Int) + 4 = (135 : Int) := by decide +kernel
theorem d_M_payFrom_134 : decode c_M_payFrom 134 = .ok (.iconst 0, 1) ∧ 134 + 1 = 135 := by decide +kernel
theorem d_M_payFrom_135 : decode c_M_payFrom 135 = .ok (.istore 9, 2) ∧ 135 + 2 = 137 := by decide +kernel
theorem d_M_payFrom_137 : decode c_M_payFrom 137 = .ok (.iconst 0, 1) ∧ 137 + 1 = 138 := by decide +kernel
theorem d_M_payFrom_138 : decode c_M_payFrom 138 = .ok (.istore 10, 2) ∧ 138 + 2 = 140 := by decide +kernel
theorem d_M_payFrom_140 : decode c_M_payFrom 140 = .ok (.iload 10, 2) ∧ 140 + 2 = 142 := by decide +kernel
theorem d_M_payFrom_142 : decode c_M_payFrom 142 = .ok (.bipush 10, 2) ∧ 142 + 2 = 144 := by decide +kernel
theorem d_M_payFrom_144 : decode c_M_payFrom 144 = .ok (.if_icmp .ge 72, 3) ∧ 144 + 3 = 147 ∧ ((144 : Nat) : Int) + 72 = ((216 : Nat) : Int) := by decide +kernel
theorem d_M_payFrom_147 : decode c_M_payFrom 147 = .ok (.aload_n 0, 1) ∧ 147 + 1 = 148 := by decide +kernel
theorem d_M_payFrom_148 : decode c_M_payFrom 148 = .ok (.getfield 140, 3) ∧ 148 + 3 = 151 := by decide +kernel
theorem d_M_payFrom_151 : decode c_M_payFrom 151 = .ok (.iload 10, 2) ∧ 151 + 2 = 153 := by decide +kernel
theorem d_M_payFrom_153 : decode c_M_payFrom 153 = .ok (.iaload, 1) ∧ 153 + 1 = 154 := by decide +kernel
theorem d_M_payFrom_154 : decode c_M_payFrom 154 = .ok (.iload 6, 2) ∧ 154 + 2 = 156 := by decide +kernel
theorem d_M_payFrom_156 : decode c_M_payFrom 156 = .ok (.if_icmp .ne 54, 3) ∧ 156 + 3 = 159 ∧ ((156 : Nat) : Int) + 54 = ((210 : Nat) : Int) := by decide +kernel
theorem d_M_payFrom_159 : decode c_M_payFrom 159 = .ok (.aload_n 0, 1) ∧ 159 + 1 = 160 := by decide +kernel
theorem d_M_payFrom_160 : decode c_M_payFrom 160 = .ok (.getfield 149, 3) ∧ 160 + 3 = 163 := by decide +kernel
theorem d_M_payFrom_163 : decode c_M_payFrom 163 = .ok (.bipush 10, 2) ∧ 163 + 2 = 165 := by decide +kernel
theorem d_M_payFrom_165 : decode c_M_payFrom 165 = .ok (.iload_n 1, 1) ∧ 165 + 1 = 166 := by decide +kernel
theorem d_M_payFrom_166 : decode c_M_payFrom 166 = .ok (.imul, 1) ∧ 166 + 1 = 167 := by decide +kernel
theorem d_M_payFrom_167 : decode c_M_payFrom 167 = .ok (.iload 10, 2) ∧ 167 + 2 = 169 := by decide +kernel
theorem d_M_payFrom_169 : decode c_M_payFrom 169 = .ok (.iadd, 1) ∧ 169 + 1 = 170 := by decide +kernel
theorem d_M_payFrom_170 : decode c_M_payFrom 170 = .ok (.iload 9, 2) ∧ 170 + 2 = 172 := by decide +kernel
theorem d_M_payFrom_172 : decode c_M_payFrom 172 = .ok (.ifCond .eq 18, 3) ∧ 172 + 3 = 175 ∧ ((172 : Nat) : Int) + 18 = ((190 : Nat) : Int) := by decide +kernel
theorem d_M_payFrom_175 : decode c_M_payFrom 175 = .ok (.aload_n 0, 1) ∧ 175 + 1 = 176 := by decide +kernel
theorem d_M_payFrom_176 : decode c_M_payFrom 176 = .ok (.getfield 134, 3) ∧ 176 + 3 = 179 := by decide +kernel
theorem d_M_payFrom_179 : decode c_M_payFrom 179 = .ok (.bipush 10, 2) ∧ 179 + 2 = 181 := by decide +kernel
theorem d_M_payFrom_181 : decode c_M_payFrom 181 = .ok (.iload_n 1, 1) ∧ 181 + 1 = 182 := by decide +kernel
theorem d_M_payFrom_182 : decode c_M_payFrom 182 = .ok (.imul, 1) ∧ 182 + 1 = 183 := by decide +kernel
theorem d_M_payFrom_183 : decode c_M_payFrom 183 = .ok (.iload 10, 2) ∧ 183 + 2 = 185 := by decide +kernel
theorem d_M_payFrom_185 : decode c_M_payFrom 185 = .ok (.iadd, 1) ∧ 185 + 1 = 186 := by decide +kernel
theorem d_M_payFrom_186 : decode c_M_payFrom 186 = .ok (.iaload, 1) ∧ 186 + 1 = 187 := by decide +kernel
theorem d_M_payFrom_187 : decode c_M_payFrom 187 = .ok (.goto 22, 3) ∧ (187 : Int) + 22 = (209 : Int) := by decide +kernel
theorem d_M_payFrom_190 : decode c_M_payFrom 190 = .ok (.aload_n 0, 1) ∧ 190 + 1 = 191 := by decide +kernel
theorem d_M_payFrom_191 : decode c_M_payFrom 191 = .ok (.getfield 134, 3) ∧ 191 + 3 = 194 := by decide +kernel
theorem d_M_payFrom_194 : decode c_M_payFrom 194 = .ok (.bipush 10, 2) ∧ 194 + 2 = 196 := by decide +kernel
theorem d_M_payFrom_196 : decode c_M_payFrom 196 = .ok (.iload_n 1, 1) ∧ 196 + 1 = 197 := by decide +kernel
theorem d_M_payFrom_197 : decode c_M_payFrom 197 = .ok (.imul, 1) ∧ 197 + 1 = 198 := by decide +kernel
theorem d_M_payFrom_198 : decode c_M_payFrom 198 = .ok (.iload 10, 2) ∧ 198 + 2 = 200 := by decide +kernel
theorem d_M_payFrom_200 : decode c_M_payFrom 200 = .ok (.iadd, 1) ∧ 200 + 1 = 201 := by decide +kernel
theorem d_M_payFrom_201 : decode c_M_payFrom 201 = .ok (.iaload, 1) ∧ 201 + 1 = 202 := by decide +kernel
theorem d_M_payFrom_202 : decode c_M_payFrom 202 = .ok (.i2l, 1) ∧ 202 + 1 = 203 := by decide +kernel
theorem d_M_payFrom_203 : decode c_M_payFrom 203 = .ok (.lload_n 2, 1) ∧ 203 + 1 = 204 := by decide +kernel
theorem d_M_payFrom_204 : decode c_M_payFrom 204 = .ok (.lmul, 1) ∧ 204 + 1 = 205 := by decide +kernel
theorem d_M_payFrom_205 : decode c_M_payFrom 205 = .ok (.lload 7, 2) ∧ 205 + 2 = 207 := by decide +kernel
theorem d_M_payFrom_207 : decode c_M_payFrom 207 = .ok (.ldiv, 1) ∧ 207 + 1 = 208 := by decide +kernel
theorem d_M_payFrom_208 : decode c_M_payFrom 208 = .ok (.l2i, 1) ∧ 208 + 1 = 209 := by decide +kernel
theorem d_M_payFrom_209 : decode c_M_payFrom 209 = .ok (.iastore, 1) ∧ 209 + 1 = 210 := by decide +kernel
theorem d_M_payFrom_210 : decode c_M_payFrom 210 = .ok (.iinc 10 1, 3) ∧ 210 + 3 = 213 := by decide +kernel
theorem d_M_payFrom_213 : decode c_M_payFrom 213 = .ok (.goto (-73), 3) ∧ (213 : Int) + (-73) = (140 : Int) := by decide +kernel
theorem d_M_payFrom_216 : decode c_M_payFrom 216 = .ok (.iload 9, 2) ∧ 216 + 2 = 218 := by decide +kernel
theorem d_M_payFrom_218 : decode c_M_payFrom 218 = .ok (.ifCond .eq 10, 3) ∧ 218 + 3 = 221 ∧ ((218 : Nat) : Int) + 10 = ((228 : Nat) : Int) := by decide +kernel
theorem d_M_payFrom_221 : decode c_M_payFrom 221 = .ok (.lload_n 2, 1) ∧ 221 + 1 = 222 := by decide +kernel
theorem d_M_payFrom_222 : decode c_M_payFrom 222 = .ok (.lload 7, 2) ∧ 222 + 2 = 224 := by decide +kernel
theorem d_M_payFrom_224 : decode c_M_payFrom 224 = .ok (.lsub, 1) ∧ 224 + 1 = 225 := by decide +kernel
theorem d_M_payFrom_225 : decode c_M_payFrom 225 = .ok (.goto 4, 3) ∧ (225 : Int) + 4 = (229 : Int) := by decide +kernel
theorem d_M_payFrom_228 : decode c_M_payFrom 228 = .ok (.lconst 0, 1) ∧ 228 + 1 = 229 := by decide +kernel
theorem d_M_payFrom_229 : decode c_M_payFrom 229 = .ok (.lstore_n 2, 1) ∧ 229 + 1 = 230 := by decide +kernel
theorem d_M_payFrom_230 : decode c_M_payFrom 230 = .ok (.iinc 6 1, 3) ∧ 230 + 3 = 233 := by decide +kernel
theorem d_M_payFrom_233 : decode c_M_payFrom 233 = .ok (.goto (-169), 3) ∧ (233 : Int) + (-169) = (64 : Int) := by decide +kernel
theorem d_M_payFrom_236 : decode c_M_payFrom 236 = .ok (.return_, 1) ∧ 236 + 1 = 237 := by decide +kernel
set_option maxHeartbeats 4000000 in
theorem w_M_payFrom_L140 {Z : Sy} {Γ : Nat → List (Nat × Value) → List Value → St → Prop} {res : St} {x1 : Int32} {x2 : Int64} {x6 : Int32} {x7 : Int64} {x9 : Int32} {k64 : Int64 → Int32 → St → Option St} (h : IsG YM Z R_M c_M_payFrom 11 1 none none res Γ) (hk64 : ∀ (x2 : Int64) (x6 : Int32) (σ : St), k64 x2 x6 σ = some res → Γ 64 [(0, .ref (ya Z 0)), (1, .int x1), (2, .long x2), (6, .int x6)] [] σ) : ∀ (n : Nat) (x10 : Int32) (σ : St), M_payFrom_L140 x1 x2 x6 x7 x9 k64 n x10 σ = some res → Γ 140 [(0, .ref (ya Z 0)), (1, .int x1), (2, .long x2), (6, .int x6), (7, .long x7), (9, .int x9), (10, .int x10)] [] σ := by
  intro n
  induction n with
  | zero => intro x10 σ hf; exact absurd hf (by simp [M_payFrom_L140])
  | succ n ih =>
    intro x10 σ hf
    rw [M_payFrom_L140] at hf
    refine r_iload h d_M_payFrom_140 6 rfl ?_
    refine r_bipush h d_M_payFrom_142 kb_10 ?_
    refine r_icmp_ge h d_M_payFrom_144 hf (fun hf => ?_) (fun hf => ?_)
    · refine r_iload h d_M_payFrom_216 5 rfl ?_
      refine r_if_eq h d_M_payFrom_218 hf (fun hf => ?_) (fun hf => ?_)
      · refine r_lconst h d_M_payFrom_228 kl_0 ?_
        refine r_lstore_n (ls' := [(2, .long (0 : Int64)), (0, .ref (ya Z 0)), (1, .int x1), (6, .int x6), (7, .long x7), (9, .int x9), (10, .int x10)]) h d_M_payFrom_229 rfl (by decide) rfl ?_
        refine r_iinc (ls' := [(6, .int (x6 + (1 : Int32))), (2, .long (0 : Int64)), (0, .ref (ya Z 0)), (1, .int x1), (7, .long x7), (9, .int x9), (10, .int x10)]) h d_M_payFrom_230 3 rfl ki_1 (by decide) rfl ?_
        refine r_goto h d_M_payFrom_233 ?_
        refine r_sub h [2, 3, 1, 0] rfl ?_
        exact hk64 _ _ _ hf
      · refine r_lload_n h d_M_payFrom_221 2 rfl rfl ?_
        refine r_lload h d_M_payFrom_222 4 rfl ?_
        refine r_lsub h d_M_payFrom_224 ?_
        refine r_goto h d_M_payFrom_225 ?_
        refine r_lstore_n (ls' := [(2, .long (x2 - x7)), (0, .ref (ya Z 0)), (1, .int x1), (6, .int x6), (7, .long x7), (9, .int x9), (10, .int x10)]) h d_M_payFrom_229 rfl (by decide) rfl ?_
        refine r_iinc (ls' := [(6, .int (x6 + (1 : Int32))), (2, .long (x2 - x7)), (0, .ref (ya Z 0)), (1, .int x1), (7, .long x7), (9, .int x9), (10, .int x10)]) h d_M_payFrom_230 3 rfl ki_1 (by decide) rfl ?_
        refine r_goto h d_M_payFrom_233 ?_
        refine r_sub h [2, 3, 1, 0] rfl ?_
        exact hk64 _ _ _ hf
    · refine r_aload_n h d_M_payFrom_147 0 rfl rfl ?_
      refine r_getR h fd_YM_0_55 cf_M fl_M_140 d_M_payFrom_148 ?_
      refine r_iload h d_M_payFrom_151 6 rfl ?_
      refine r_iald h sh_YM_44 d_M_payFrom_153 hf (fun hf => ?_)
      refine r_iload h d_M_payFrom_154 3 rfl ?_
      refine r_icmp_ne h d_M_payFrom_156 hf (fun hf => ?_) (fun hf => ?_)
      · refine r_iinc (ls' := [(10, .int (x10 + (1 : Int32))), (0, .ref (ya Z 0)), (1, .int x1), (2, .long x2), (6, .int x6), (7, .long x7), (9, .int x9)]) h d_M_payFrom_210 6 rfl ki_1 (by decide) rfl ?_
        refine r_goto h d_M_payFrom_213 ?_
        refine r_sub h [1, 2, 3, 4, 5, 6, 0] rfl ?_
        exact ih _ _ hf
      · refine r_aload_n h d_M_payFrom_159 0 rfl rfl ?_
        refine r_getR h fd_YM_0_59 cf_M fl_M_149 d_M_payFrom_160 ?_
        refine r_bipush h d_M_payFrom_163 kb_10 ?_
        refine r_iload_n h d_M_payFrom_165 1 rfl rfl ?_
        refine r_imul h d_M_payFrom_166 ?_
        refine r_iload h d_M_payFrom_167 6 rfl ?_
        refine r_iadd h d_M_payFrom_169 ?_
        refine r_iload h d_M_payFrom_170 5 rfl ?_
        refine r_if_eq h d_M_payFrom_172 hf (fun hf => ?_) (fun hf => ?_)
        · refine r_aload_n h d_M_payFrom_190 0 rfl rfl ?_
          refine r_getR h fd_YM_0_53 cf_M fl_M_134 d_M_payFrom_191 ?_
          refine r_bipush h d_M_payFrom_194 kb_10 ?_
          refine r_iload_n h d_M_payFrom_196 1 rfl rfl ?_
          refine r_imul h d_M_payFrom_197 ?_
          refine r_iload h d_M_payFrom_198 6 rfl ?_
          refine r_iadd h d_M_payFrom_200 ?_
          refine r_iald h sh_YM_42 d_M_payFrom_201 hf (fun hf => ?_)
          refine r_i2l h d_M_payFrom_202 ?_
          refine r_lload_n h d_M_payFrom_203 2 rfl rfl ?_
          refine r_lmul h d_M_payFrom_204 ?_
          refine r_lload h d_M_payFrom_205 4 rfl ?_
          refine q_div hf (fun hne hf => ?_)
          refine r_ldiv h d_M_payFrom_207 hne ?_
          refine r_l2i h d_M_payFrom_208 ?_
          refine r_iast h sh_YM_47 d_M_payFrom_209 hf (fun hf => ?_)
          refine r_iinc (ls' := [(10, .int (x10 + (1 : Int32))), (0, .ref (ya Z 0)), (1, .int x1), (2, .long x2), (6, .int x6), (7, .long x7), (9, .int x9)]) h d_M_payFrom_210 6 rfl ki_1 (by decide) rfl ?_
          refine r_goto h d_M_payFrom_213 ?_
          refine r_sub h [1, 2, 3, 4, 5, 6, 0] rfl ?_
          exact ih _ _ hf
        · refine r_aload_n h d_M_payFrom_175 0 rfl rfl ?_
          refine r_getR h fd_YM_0_53 cf_M fl_M_134 d_M_payFrom_176 ?_
          refine r_bipush h d_M_payFrom_179 kb_10 ?_
          refine r_iload_n h d_M_payFrom_181 1 rfl rfl ?_
          refine r_imul h d_M_payFrom_182 ?_
          refine r_iload h d_M_payFrom_183 6 rfl ?_
          refine r_iadd h d_M_payFrom_185 ?_
          refine r_iald h sh_YM_42 d_M_payFrom_186 hf (fun hf => ?_)
          refine r_goto h d_M_payFrom_187 ?_
          refine r_iast h sh_YM_47 d_M_payFrom_209 hf (fun hf => ?_)
          refine r_iinc (ls' := [(10, .int (x10 + (1 : Int32))), (0, .ref (ya Z 0)), (1, .int x1), (2, .long x2), (6, .int x6), (7, .long x7), (9, .int x9)]) h d_M_payFrom_210 6 rfl ki_1 (by decide) rfl ?_
          refine r_goto h d_M_payFrom_213 ?_
          refine r_sub h [1, 2, 3, 4, 5, 6, 0] rfl ?_
          exact ih _ _ hf

set_option maxHeartbeats 4000000 in
theorem w_M_payFrom_L76 {Z : Sy} {Γ : Nat → List (Nat × Value) → List Value → St → Prop} {res : St} {x1 : Int32} {x2 : Int64} {x6 : Int32} {σ : St} {k64 : Int64 → Int32 → St → Option St} (h : IsG YM Z R_M c_M_payFrom 11 1 none none res Γ) (hk64 : ∀ (x2 : Int64) (x6 : Int32) (σ : St), k64 x2 x6 σ = some res → Γ 64 [(0, .ref (ya Z 0)), (1, .int x1), (2, .long x2), (6, .int x6)] [] σ) : ∀ (n : Nat) (x7 : Int64) (x9 : Int32), M_payFrom_L76 x1 x2 x6 σ k64 n x7 x9 = some res → Γ 76 [(0, .ref (ya Z 0)), (1, .int x1), (2, .long x2), (6, .int x6), (7, .long x7), (9, .int x9)] [] σ := by
  intro n
  induction n with
  | zero => intro x7 x9 hf; exact absurd hf (by simp [M_payFrom_L76])
  | succ n ih =>
    intro x7 x9 hf
    rw [M_payFrom_L76] at hf
    refine r_iload h d_M_payFrom_76 5 rfl ?_
    refine r_bipush h d_M_payFrom_78 kb_10 ?_
    refine r_icmp_ge h d_M_payFrom_80 hf (fun hf => ?_) (fun hf => ?_)
    · refine r_lload_n h d_M_payFrom_123 2 rfl rfl ?_
      refine r_lload h d_M_payFrom_124 4 rfl ?_
      refine r_lif_lt h d_M_payFrom_126 d_M_payFrom_127 hf (fun hf => ?_) (fun hf => ?_)
      · refine r_iconst h d_M_payFrom_134 ki_0 ?_
        refine r_istore (ls' := [(9, .int (0 : Int32)), (0, .ref (ya Z 0)), (1, .int x1), (2, .long x2), (6, .int x6), (7, .long x7)]) h d_M_payFrom_135 (by decide) rfl ?_
        refine r_iconst h d_M_payFrom_137 ki_0 ?_
        refine r_istore (ls' := [(10, .int (0 : Int32)), (9, .int (0 : Int32)), (0, .ref (ya Z 0)), (1, .int x1), (2, .long x2), (6, .int x6), (7, .long x7)]) h d_M_payFrom_138 (by decide) rfl ?_
        refine r_sub h [2, 3, 4, 5, 6, 1, 0] rfl ?_
        exact w_M_payFrom_L140 h hk64 _ _ _ hf
      · refine r_iconst h d_M_payFrom_130 ki_1 ?_
        refine r_goto h d_M_payFrom_131 ?_
        refine r_istore (ls' := [(9, .int (1 : Int32)), (0, .ref (ya Z 0)), (1, .int x1), (2, .long x2), (6, .int x6), (7, .long x7)]) h d_M_payFrom_135 (by decide) rfl ?_
        refine r_iconst h d_M_payFrom_137 ki_0 ?_
        refine r_istore (ls' := [(10, .int (0 : Int32)), (9, .int (1 : Int32)), (0, .ref (ya Z 0)), (1, .int x1), (2, .long x2), (6, .int x6), (7, .long x7)]) h d_M_payFrom_138 (by decide) rfl ?_
        refine r_sub h [2, 3, 4, 5, 6, 1, 0] rfl ?_
        exact w_M_payFrom_L140 h hk64 _ _ _ hf
    · refine r_lload h d_M_payFrom_83 4 rfl ?_
      refine r_aload_n h d_M_payFrom_85 0 rfl rfl ?_
      refine r_getR h fd_YM_0_55 cf_M fl_M_140 d_M_payFrom_86 ?_
      refine r_iload h d_M_payFrom_89 5 rfl ?_
      refine r_iald h sh_YM_44 d_M_payFrom_91 hf (fun hf => ?_)
      refine r_iload h d_M_payFrom_92 3 rfl ?_
      refine r_icmp_ne h d_M_payFrom_94 hf (fun hf => ?_) (fun hf => ?_)
      · refine r_lconst h d_M_payFrom_113 kl_0 ?_
        refine r_ladd h d_M_payFrom_114 ?_
        refine r_lstore (ls' := [(7, .long (x7 + (0 : Int64))), (0, .ref (ya Z 0)), (1, .int x1), (2, .long x2), (6, .int x6), (9, .int x9)]) h d_M_payFrom_115 (by decide) rfl ?_
        refine r_iinc (ls' := [(9, .int (x9 + (1 : Int32))), (7, .long (x7 + (0 : Int64))), (0, .ref (ya Z 0)), (1, .int x1), (2, .long x2), (6, .int x6)]) h d_M_payFrom_117 5 rfl ki_1 (by decide) rfl ?_
        refine r_goto h d_M_payFrom_120 ?_
        refine r_sub h [2, 3, 4, 5, 1, 0] rfl ?_
        exact ih _ _ hf
      · refine r_aload_n h d_M_payFrom_97 0 rfl rfl ?_
        refine r_getR h fd_YM_0_53 cf_M fl_M_134 d_M_payFrom_98 ?_
        refine r_bipush h d_M_payFrom_101 kb_10 ?_
        refine r_iload_n h d_M_payFrom_103 1 rfl rfl ?_
        refine r_imul h d_M_payFrom_104 ?_
        refine r_iload h d_M_payFrom_105 5 rfl ?_
        refine r_iadd h d_M_payFrom_107 ?_
        refine r_iald h sh_YM_42 d_M_payFrom_108 hf (fun hf => ?_)
        refine r_i2l h d_M_payFrom_109 ?_
        refine r_goto h d_M_payFrom_110 ?_
        refine r_ladd h d_M_payFrom_114 ?_
        refine r_lstore (ls' := [(7, .long (x7 + (Int32.toInt64 (σ.1 42 (Int32.toNatClampNeg (((10 : Int32) * x1) + x9)))))), (0, .ref (ya Z 0)), (1, .int x1), (2, .long x2), (6, .int x6), (9, .int x9)]) h d_M_payFrom_115 (by decide) rfl ?_
        refine r_iinc (ls' := [(9, .int (x9 + (1 : Int32))), (7, .long (x7 + (Int32.toInt64 (σ.1 42 (Int32.toNatClampNeg (((10 : Int32) * x1) + x9)))))), (0, .ref (ya Z 0)), (1, .int x1), (2, .long x2), (6, .int x6)]) h d_M_payFrom_117 5 rfl ki_1 (by decide) rfl ?_
        refine r_goto h d_M_payFrom_120 ?_
        refine r_sub h [2, 3, 4, 5, 1, 0] rfl ?_
        exact ih _ _ hf

set_option maxHeartbeats 4000000 in
theorem w_M_payFrom_L64 {Z : Sy} {Γ : Nat → List (Nat × Value) → List Value → St → Prop} {res : St} {x1 : Int32} (h : IsG YM Z R_M c_M_payFrom 11 1 none none res Γ) : ∀ (n : Nat) (x2 : Int64) (x6 : Int32) (σ : St), M_payFrom_L64 x1 n x2 x6 σ = some res → Γ 64 [(0, .ref (ya Z 0)), (1, .int x1), (2, .long x2), (6, .int x6)] [] σ := by
  intro n
  induction n with
  | zero => intro x2 x6 σ hf; exact absurd hf (by simp [M_payFrom_L64])
  | succ n ih =>
    intro x2 x6 σ hf
    rw [M_payFrom_L64] at hf
    refine r_iload h d_M_payFrom_64 3 rfl ?_
    refine r_iconst h d_M_payFrom_66 ki_3 ?_
    refine r_icmp_ge h d_M_payFrom_67 hf (fun hf => ?_) (fun hf => ?_)
    · exact r_vreturn h d_M_payFrom_236.1 (Option.some.inj hf)
    · refine r_lconst h d_M_payFrom_70 kl_0 ?_
      refine r_lstore (ls' := [(7, .long (0 : Int64)), (0, .ref (ya Z 0)), (1, .int x1), (2, .long x2), (6, .int x6)]) h d_M_payFrom_71 (by decide) rfl ?_
      refine r_iconst h d_M_payFrom_73 ki_0 ?_
      refine r_istore (ls' := [(9, .int (0 : Int32)), (7, .long (0 : Int64)), (0, .ref (ya Z 0)), (1, .int x1), (2, .long x2), (6, .int x6)]) h d_M_payFrom_74 (by decide) rfl ?_
      refine r_sub h [2, 3, 4, 5, 1, 0] rfl ?_
      exact w_M_payFrom_L76 h (fun y2 y6 τ hf => ih y2 y6 τ hf) _ _ _ hf

set_option maxHeartbeats 4000000 in
theorem w_M_payFrom_L14 {Z : Sy} {Γ : Nat → List (Nat × Value) → List Value → St → Prop} {res : St} {x1 : Int32} {σ : St} (h : IsG YM Z R_M c_M_payFrom 11 1 none none res Γ) : ∀ (n : Nat) (x2 : Int64) (x4 : Int64) (x6 : Int32), M_payFrom_L14 x1 σ n x2 x4 x6 = some res → Γ 14 [(0, .ref (ya Z 0)), (1, .int x1), (2, .long x2), (4, .long x4), (6, .int x6)] [] σ := by
  intro n
  induction n with
  | zero => intro x2 x4 x6 hf; exact absurd hf (by simp [M_payFrom_L14])
  | succ n ih =>
    intro x2 x4 x6 hf
    rw [M_payFrom_L14] at hf
    refine r_iload h d_M_payFrom_14 4 rfl ?_
    refine r_bipush h d_M_payFrom_16 kb_10 ?_
    refine r_icmp_ge h d_M_payFrom_18 hf (fun hf => ?_) (fun hf => ?_)
    · refine r_iconst h d_M_payFrom_61 ki_0 ?_
      refine r_istore (ls' := [(6, .int (0 : Int32)), (0, .ref (ya Z 0)), (1, .int x1), (2, .long x2), (4, .long x4)]) h d_M_payFrom_62 (by decide) rfl ?_
      refine r_sub h [1, 2, 3, 0] rfl ?_
      exact w_M_payFrom_L64 h _ _ _ _ hf
    · refine r_lload_n h d_M_payFrom_21 2 rfl rfl ?_
      refine r_aload_n h d_M_payFrom_22 0 rfl rfl ?_
      refine r_getR h fd_YM_0_58 cf_M fl_M_146 d_M_payFrom_23 ?_
      refine r_bipush h d_M_payFrom_26 kb_10 ?_
      refine r_iload h d_M_payFrom_28 4 rfl ?_
      refine r_imul h d_M_payFrom_30 ?_
      refine r_iload_n h d_M_payFrom_31 1 rfl rfl ?_
      refine r_iadd h d_M_payFrom_32 ?_
      refine r_iald h sh_YM_46 d_M_payFrom_33 hf (fun hf => ?_)
      refine r_i2l h d_M_payFrom_34 ?_
      refine r_ladd h d_M_payFrom_35 ?_
      refine r_lstore_n (ls' := [(2, .long (x2 + (Int32.toInt64 (σ.1 46 (Int32.toNatClampNeg (((10 : Int32) * x6) + x1)))))), (0, .ref (ya Z 0)), (1, .int x1), (4, .long x4), (6, .int x6)]) h d_M_payFrom_36 rfl (by decide) rfl ?_
      refine r_lload h d_M_payFrom_37 3 rfl ?_
      refine r_aload_n h d_M_payFrom_39 1 rfl rfl ?_
      refine r_getR h fd_YM_0_53 cf_M fl_M_134 d_M_payFrom_40 ?_
      refine r_bipush h d_M_payFrom_43 kb_10 ?_
      refine r_iload_n h d_M_payFrom_45 2 rfl rfl ?_
      refine r_imul h d_M_payFrom_46 ?_
      refine r_iload h d_M_payFrom_47 4 rfl ?_
      refine r_iadd h d_M_payFrom_49 ?_
      refine r_iald h sh_YM_42 d_M_payFrom_50 hf (fun hf => ?_)
      refine r_i2l h d_M_payFrom_51 ?_
      refine r_ladd h d_M_payFrom_52 ?_
      refine r_lstore (ls' := [(4, .long (x4 + (Int32.toInt64 (σ.1 42 (Int32.toNatClampNeg (((10 : Int32) * x1) + x6)))))), (2, .long (x2 + (Int32.toInt64 (σ.1 46 (Int32.toNatClampNeg (((10 : Int32) * x6) + x1)))))), (0, .ref (ya Z 0)), (1, .int x1), (6, .int x6)]) h d_M_payFrom_53 (by decide) rfl ?_
      refine r_iinc (ls' := [(6, .int (x6 + (1 : Int32))), (4, .long (x4 + (Int32.toInt64 (σ.1 42 (Int32.toNatClampNeg (((10 : Int32) * x1) + x6)))))), (2, .long (x2 + (Int32.toInt64 (σ.1 46 (Int32.toNatClampNeg (((10 : Int32) * x6) + x1)))))), (0, .ref (ya Z 0)), (1, .int x1)]) h d_M_payFrom_55 4 rfl ki_1 (by decide) rfl ?_
      refine r_goto h d_M_payFrom_58 ?_
      refine r_sub h [3, 4, 2, 1, 0] rfl ?_
      exact ih _ _ _ hf

set_option maxHeartbeats 4000000 in
theorem m_M_payFrom {Z : Sy} {σ : St} {res : St} {x1 : Int32} (hf : M_payFrom x1 σ = some res) : Ct YM Z y_M_payFrom c_M_payFrom 11 none 1 [.ref (ya Z 0), .int x1] σ none res := by
  refine Ct.of pn_M (Nat.le_of_ble_eq_true rfl) rfl (fun Γ h => ?_)
  have h : IsG YM Z R_M c_M_payFrom 11 1 none none res Γ := h
  unfold M_payFrom at hf
  refine r_aload_n h d_M_payFrom_0 0 rfl rfl ?_
  refine r_getR h fd_YM_0_54 cf_M fl_M_137 d_M_payFrom_1 ?_
  refine r_iload_n h d_M_payFrom_4 1 rfl rfl ?_
  refine r_iald h sh_YM_43 d_M_payFrom_5 hf (fun hf => ?_)
  refine r_i2l h d_M_payFrom_6 ?_
  refine r_lstore_n (ls' := [(2, .long (Int32.toInt64 (σ.1 43 (Int32.toNatClampNeg x1)))), (0, .ref (ya Z 0)), (1, .int x1)]) h d_M_payFrom_7 rfl (by decide) rfl ?_
  refine r_lconst h d_M_payFrom_8 kl_0 ?_
  refine r_lstore (ls' := [(4, .long (0 : Int64)), (2, .long (Int32.toInt64 (σ.1 43 (Int32.toNatClampNeg x1)))), (0, .ref (ya Z 0)), (1, .int x1)]) h d_M_payFrom_9 (by decide) rfl ?_
  refine r_iconst h d_M_payFrom_11 ki_0 ?_
  refine r_istore (ls' := [(6, .int (0 : Int32)), (4, .long (0 : Int64)), (2, .long (Int32.toInt64 (σ.1 43 (Int32.toNatClampNeg x1)))), (0, .ref (ya Z 0)), (1, .int x1)]) h d_M_payFrom_12 (by decide) rfl ?_
  refine r_sub h [3, 4, 2, 1, 0] rfl ?_
  exact w_M_payFrom_L14 h _ _ _ _ hf

