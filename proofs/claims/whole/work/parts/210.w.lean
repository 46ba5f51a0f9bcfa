theorem d_Offers_plan_0 : decode c_Offers_plan 0 = .ok (.aload_n 0, 1) ∧ 0 + 1 = 1 := by decide +kernel
theorem d_Offers_plan_1 : decode c_Offers_plan 1 = .ok (.getfield 34, 3) ∧ 1 + 3 = 4 := by decide +kernel
theorem d_Offers_plan_4 : decode c_Offers_plan 4 = .ok (.ifCond .eq 4, 3) ∧ 4 + 3 = 7 ∧ ((4 : Nat) : Int) + 4 = ((8 : Nat) : Int) := by decide +kernel
theorem d_Offers_plan_7 : decode c_Offers_plan 7 = .ok (.return_, 1) ∧ 7 + 1 = 8 := by decide +kernel
theorem d_Offers_plan_8 : decode c_Offers_plan 8 = .ok (.aload_n 0, 1) ∧ 8 + 1 = 9 := by decide +kernel
theorem d_Offers_plan_9 : decode c_Offers_plan 9 = .ok (.iconst 0, 1) ∧ 9 + 1 = 10 := by decide +kernel
theorem d_Offers_plan_10 : decode c_Offers_plan 10 = .ok (.putfield 38, 3) ∧ 10 + 3 = 13 := by decide +kernel
theorem d_Offers_plan_13 : decode c_Offers_plan 13 = .ok (.aload_n 0, 1) ∧ 13 + 1 = 14 := by decide +kernel
theorem d_Offers_plan_14 : decode c_Offers_plan 14 = .ok (.iconst 0, 1) ∧ 14 + 1 = 15 := by decide +kernel
theorem d_Offers_plan_15 : decode c_Offers_plan 15 = .ok (.putfield 41, 3) ∧ 15 + 3 = 18 := by decide +kernel
theorem d_Offers_plan_18 : decode c_Offers_plan 18 = .ok (.iconst 1, 1) ∧ 18 + 1 = 19 := by decide +kernel
theorem d_Offers_plan_19 : decode c_Offers_plan 19 = .ok (.istore_n 2, 1) ∧ 19 + 1 = 20 := by decide +kernel
theorem d_Offers_plan_20 : decode c_Offers_plan 20 = .ok (.iload_n 2, 1) ∧ 20 + 1 = 21 := by decide +kernel
theorem d_Offers_plan_21 : decode c_Offers_plan 21 = .ok (.iconst 1, 1) ∧ 21 + 1 = 22 := by decide +kernel
theorem d_Offers_plan_22 : decode c_Offers_plan 22 = .ok (.aload_n 0, 1) ∧ 22 + 1 = 23 := by decide +kernel
theorem d_Offers_plan_23 : decode c_Offers_plan 23 = .ok (.getfield 30, 3) ∧ 23 + 3 = 26 := by decide +kernel
theorem d_Offers_plan_26 : decode c_Offers_plan 26 = .ok (.ishl, 1) ∧ 26 + 1 = 27 := by decide +kernel
theorem d_Offers_plan_27 : decode c_Offers_plan 27 = .ok (.if_icmp .ge 42, 3) ∧ 27 + 3 = 30 ∧ ((27 : Nat) : Int) + 42 = ((69 : Nat) : Int) := by decide +kernel
theorem d_Offers_plan_30 : decode c_Offers_plan 30 = .ok (.aload_n 0, 1) ∧ 30 + 1 = 31 := by decide +kernel
theorem d_Offers_plan_31 : decode c_Offers_plan 31 = .ok (.iload_n 2, 1) ∧ 31 + 1 = 32 := by decide +kernel
theorem d_Offers_plan_32 : decode c_Offers_plan 32 = .ok (.invokevirtual 44, 3) ∧ 32 + 3 = 35 := by decide +kernel
theorem d_Offers_plan_35 : decode c_Offers_plan 35 = .ok (.istore_n 3, 1) ∧ 35 + 1 = 36 := by decide +kernel
theorem d_Offers_plan_36 : decode c_Offers_plan 36 = .ok (.iload_n 3, 1) ∧ 36 + 1 = 37 := by decide +kernel
theorem d_Offers_plan_37 : decode c_Offers_plan 37 = .ok (.aload_n 0, 1) ∧ 37 + 1 = 38 := by decide +kernel
theorem d_Offers_plan_38 : decode c_Offers_plan 38 = .ok (.getfield 41, 3) ∧ 38 + 3 = 41 := by decide +kernel
theorem d_Offers_plan_41 : decode c_Offers_plan 41 = .ok (.if_icmp .le 22, 3) ∧ 41 + 3 = 44 ∧ ((41 : Nat) : Int) + 22 = ((63 : Nat) : Int) := by decide +kernel
theorem d_Offers_plan_44 : decode c_Offers_plan 44 = .ok (.aload_n 0, 1) ∧ 44 + 1 = 45 := by decide +kernel
theorem d_Offers_plan_45 : decode c_Offers_plan 45 = .ok (.iload_n 2, 1) ∧ 45 + 1 = 46 := by decide +kernel
theorem d_Offers_plan_46 : decode c_Offers_plan 46 = .ok (.aload_n 1, 1) ∧ 46 + 1 = 47 := by decide +kernel
theorem d_Offers_plan_47 : decode c_Offers_plan 47 = .ok (.invokevirtual 48, 3) ∧ 47 + 3 = 50 := by decide +kernel
theorem d_Offers_plan_50 : decode c_Offers_plan 50 = .ok (.ifCond .eq 13, 3) ∧ 50 + 3 = 53 ∧ ((50 : Nat) : Int) + 13 = ((63 : Nat) : Int) := by decide +kernel
theorem d_Offers_plan_53 : decode c_Offers_plan 53 = .ok (.aload_n 0, 1) ∧ 53 + 1 = 54 := by decide +kernel
theorem d_Offers_plan_54 : decode c_Offers_plan 54 = .ok (.iload_n 2, 1) ∧ 54 + 1 = 55 := by decide +kernel
theorem d_Offers_plan_55 : decode c_Offers_plan 55 = .ok (.putfield 38, 3) ∧ 55 + 3 = 58 := by decide +kernel
theorem d_Offers_plan_58 : decode c_Offers_plan 58 = .ok (.aload_n 0, 1) ∧ 58 + 1 = 59 := by decide +kernel
theorem d_Offers_plan_59 : decode c_Offers_plan 59 = .ok (.iload_n 3, 1) ∧ 59 + 1 = 60 := by decide +kernel
theorem d_Offers_plan_60 : decode c_Offers_plan 60 = .ok (.putfield 41, 3) ∧ 60 + 3 = 63 := by decide +kernel
theorem d_Offers_plan_63 : decode c_Offers_plan 63 = .ok (.iinc 2 1, 3) ∧ 63 + 3 = 66 := by decide +kernel
theorem d_Offers_plan_66 : decode c_Offers_plan 66 = .ok (.goto (-46), 3) ∧ (66 : Int) + (-46) = (20 : Int) := by decide +kernel
theorem d_Offers_plan_69 : decode c_Offers_plan 69 = .ok (.aload_n 0, 1) ∧ 69 + 1 = 70 := by decide +kernel
theorem d_Offers_plan_70 : decode c_Offers_plan 70 = .ok (.iconst 1, 1) ∧ 70 + 1 = 71 := by decide +kernel
theorem d_Offers_plan_71 : decode c_Offers_plan 71 = .ok (.putfield 34, 3) ∧ 71 + 3 = 74 := by decide +kernel
theorem d_Offers_plan_74 : decode c_Offers_plan 74 = .ok (.return_, 1) ∧ 74 + 1 = 75 := by decide +kernel
set_option maxHeartbeats 4000000 in
theorem w_Offers_plan_L20 {Z : Sy} {Γ : Nat → List (Nat × Value) → List Value → St → Prop} {res : St} (h : IsG YC Z R_Offers c_Offers_plan 4 2 none none res Γ) : ∀ (n : Nat) (x2 : Int32) (σ : St), Offers_plan_L20 n x2 σ = some res → Γ 20 [(0, .ref (ya Z 67)), (1, .ref (ya Z 1)), (2, .int x2)] [] σ := by
  intro n
  induction n with
  | zero => intro x2 σ hf; exact absurd hf (by simp [Offers_plan_L20])
  | succ n ih =>
    intro x2 σ hf
    rw [Offers_plan_L20] at hf
    refine r_iload_n h d_Offers_plan_20 2 rfl rfl ?_
    refine r_iconst h d_Offers_plan_21 ki_1 ?_
    refine r_aload_n h d_Offers_plan_22 0 rfl rfl ?_
    refine r_getI h fd_YC_67_6 cf_Offers fl_Offers_30 d_Offers_plan_23 ?_
    refine r_ishl h d_Offers_plan_26 ?_
    refine r_icmp_ge h d_Offers_plan_27 hf (fun hf => ?_) (fun hf => ?_)
    · refine r_aload_n h d_Offers_plan_69 0 rfl rfl ?_
      refine r_iconst h d_Offers_plan_70 ki_1 ?_
      refine r_putX h fd_YC_67_9 cf_Offers fl_Offers_34 ⟨rfl, rfl⟩ (ty := .boolean) (by decide) (by decide) d_Offers_plan_71 ?_
      exact r_vreturn h d_Offers_plan_74.1 (Option.some.inj hf)
    · refine r_aload_n h d_Offers_plan_30 0 rfl rfl ?_
      refine r_iload_n h d_Offers_plan_31 2 rfl rfl ?_
      obtain ⟨r32, e32, hf⟩ := q_bind hf
      refine r_callV (As := [.int x2]) (rest := []) h sh_YC_67 lk_Offers_44 vk_Offers_44 d_Offers_plan_32 (by decide) rfl rfl (Nat.le_of_ble_eq_true rfl) (m_Offers_gainOfSet e32) ?_
      refine r_istore_n (ls' := [(3, .int r32), (0, .ref (ya Z 67)), (1, .ref (ya Z 1)), (2, .int x2)]) h d_Offers_plan_35 rfl (by decide) rfl ?_
      refine r_iload_n h d_Offers_plan_36 0 rfl rfl ?_
      refine r_aload_n h d_Offers_plan_37 1 rfl rfl ?_
      refine r_getI h fd_YC_67_8 cf_Offers fl_Offers_41 d_Offers_plan_38 ?_
      refine r_icmp_le h d_Offers_plan_41 hf (fun hf => ?_) (fun hf => ?_)
      · refine r_iinc (ls' := [(2, .int (x2 + (1 : Int32))), (3, .int r32), (0, .ref (ya Z 67)), (1, .ref (ya Z 1))]) h d_Offers_plan_63 3 rfl ki_1 (by decide) rfl ?_
        refine r_goto h d_Offers_plan_66 ?_
        refine r_sub h [2, 3, 0] rfl ?_
        exact ih _ _ hf
      · refine r_aload_n h d_Offers_plan_44 1 rfl rfl ?_
        refine r_iload_n h d_Offers_plan_45 3 rfl rfl ?_
        refine r_aload_n h d_Offers_plan_46 2 rfl rfl ?_
        obtain ⟨q47, e47, hf⟩ := q_bind hf
        refine r_callV (As := [.int x2, .ref (ya Z 1)]) (rest := []) h sh_YC_67 lk_Offers_48 vk_Offers_48 d_Offers_plan_47 (by decide) rfl rfl (Nat.le_of_ble_eq_true rfl) (m_Offers_mayBe e47) ?_
        refine r_bif_eq h d_Offers_plan_50 hf (fun hf => ?_) (fun hf => ?_)
        · refine r_iinc (ls' := [(2, .int (x2 + (1 : Int32))), (3, .int r32), (0, .ref (ya Z 67)), (1, .ref (ya Z 1))]) h d_Offers_plan_63 3 rfl ki_1 (by decide) rfl ?_
          refine r_goto h d_Offers_plan_66 ?_
          refine r_sub h [2, 3, 0] rfl ?_
          exact ih _ _ hf
        · refine r_aload_n h d_Offers_plan_53 1 rfl rfl ?_
          refine r_iload_n h d_Offers_plan_54 3 rfl rfl ?_
          refine r_putI h fd_YC_67_7 cf_Offers fl_Offers_38 ⟨rfl, rfl⟩ d_Offers_plan_55 ?_
          refine r_aload_n h d_Offers_plan_58 1 rfl rfl ?_
          refine r_iload_n h d_Offers_plan_59 0 rfl rfl ?_
          refine r_putI h fd_YC_67_8 cf_Offers fl_Offers_41 ⟨rfl, rfl⟩ d_Offers_plan_60 ?_
          refine r_iinc (ls' := [(2, .int (x2 + (1 : Int32))), (3, .int r32), (0, .ref (ya Z 67)), (1, .ref (ya Z 1))]) h d_Offers_plan_63 3 rfl ki_1 (by decide) rfl ?_
          refine r_goto h d_Offers_plan_66 ?_
          refine r_sub h [2, 3, 0] rfl ?_
          exact ih _ _ hf

set_option maxHeartbeats 4000000 in
theorem m_Offers_plan {Z : Sy} {σ : St} {res : St} (hf : Offers_plan  σ = some res) : Ct YC Z y_Offers_plan c_Offers_plan 4 none 2 [.ref (ya Z 67), .ref (ya Z 1)] σ none res := by
  refine Ct.of pn_Offers (Nat.le_of_ble_eq_true rfl) rfl (fun Γ h => ?_)
  have h : IsG YC Z R_Offers c_Offers_plan 4 2 none none res Γ := h
  unfold Offers_plan at hf
  refine r_aload_n h d_Offers_plan_0 0 rfl rfl ?_
  refine r_getI h fd_YC_67_9 cf_Offers fl_Offers_34 d_Offers_plan_1 ?_
  refine r_if_eq h d_Offers_plan_4 hf (fun hf => ?_) (fun hf => ?_)
  · refine r_aload_n h d_Offers_plan_8 0 rfl rfl ?_
    refine r_iconst h d_Offers_plan_9 ki_0 ?_
    refine r_putI h fd_YC_67_7 cf_Offers fl_Offers_38 ⟨rfl, rfl⟩ d_Offers_plan_10 ?_
    refine r_aload_n h d_Offers_plan_13 0 rfl rfl ?_
    refine r_iconst h d_Offers_plan_14 ki_0 ?_
    refine r_putI h fd_YC_67_8 cf_Offers fl_Offers_41 ⟨rfl, rfl⟩ d_Offers_plan_15 ?_
    refine r_iconst h d_Offers_plan_18 ki_1 ?_
    refine r_istore_n (ls' := [(2, .int (1 : Int32)), (0, .ref (ya Z 67)), (1, .ref (ya Z 1))]) h d_Offers_plan_19 rfl (by decide) rfl ?_
    refine r_sub h [1, 2, 0] rfl ?_
    exact w_Offers_plan_L20 h _ _ _ hf
  · exact r_vreturn h d_Offers_plan_7.1 (Option.some.inj hf)

theorem d_P_best_0 : decode c_P_best 0 = .ok (.iload_n 1, 1) ∧ 0 + 1 = 1 := by decide +kernel
theorem d_P_best_1 : decode c_P_best 1 = .ok (.iconst 2, 1) ∧ 1 + 1 = 2 := by decide +kernel
theorem d_P_best_2 : decode c_P_best 2 = .ok (.invokestatic 96, 3) ∧ 2 + 3 = 5 := by decide +kernel
theorem d_P_best_5 : decode c_P_best 5 = .ok (.ifCond .ne 6, 3) ∧ 5 + 3 = 8 ∧ ((5 : Nat) : Int) + 6 = ((11 : Nat) : Int) := by decide +kernel
theorem d_P_best_8 : decode c_P_best 8 = .ok (.bipush (-2), 2) ∧ 8 + 2 = 10 := by decide +kernel
theorem d_P_best_10 : decode c_P_best 10 = .ok (.ireturn, 1) ∧ 10 + 1 = 11 := by decide +kernel
theorem d_P_best_11 : decode c_P_best 11 = .ok (.aload_n 0, 1) ∧ 11 + 1 = 12 := by decide +kernel
theorem d_P_best_12 : decode c_P_best 12 = .ok (.getfield 85, 3) ∧ 12 + 3 = 15 := by decide +kernel
theorem d_P_best_15 : decode c_P_best 15 = .ok (.aload_n 0, 1) ∧ 15 + 1 = 16 := by decide +kernel
theorem d_P_best_16 : decode c_P_best 16 = .ok (.getfield 12, 3) ∧ 16 + 3 = 19 := by decide +kernel
theorem d_P_best_19 : decode c_P_best 19 = .ok (.invokevirtual 370, 3) ∧ 19 + 3 = 22 := by decide +kernel
theorem d_P_best_22 : decode c_P_best 22 = .ok (.iload_n 1, 1) ∧ 22 + 1 = 23 := by decide +kernel
theorem d_P_best_23 : decode c_P_best 23 = .ok (.ifCond .ne 13, 3) ∧ 23 + 3 = 26 ∧ ((23 : Nat) : Int) + 13 = ((36 : Nat) : Int) := by decide +kernel
theorem d_P_best_26 : decode c_P_best 26 = .ok (.aload_n 0, 1) ∧ 26 + 1 = 27 := by decide +kernel
theorem d_P_best_27 : decode c_P_best 27 = .ok (.getfield 85, 3) ∧ 27 + 3 = 30 := by decide +kernel
theorem d_P_best_30 : decode c_P_best 30 = .ok (.getfield 374, 3) ∧ 30 + 3 = 33 := by decide +kernel
theorem d_P_best_33 : decode c_P_best 33 = .ok (.goto 10, 3) ∧ (33 : Int) + 10 = (43 : Int) := by decide +kernel
theorem d_P_best_36 : decode c_P_best 36 = .ok (.aload_n 0, 1) ∧ 36 + 1 = 37 := by decide +kernel
theorem d_P_best_37 : decode c_P_best 37 = .ok (.getfield 85, 3) ∧ 37 + 3 = 40 := by decide +kernel
theorem d_P_best_40 : decode c_P_best 40 = .ok (.getfield 377, 3) ∧ 40 + 3 = 43 := by decide +kernel
theorem d_P_best_43 : decode c_P_best 43 = .ok (.ireturn, 1) ∧ 43 + 1 = 44 := by decide +kernel
set_option maxHeartbeats 4000000 in
theorem m_P_best {Z : Sy} {σ : St} {res : (Int32 × St)} {x1 : Int32} (hf : P_best x1 σ = some res) : Ct YC Z y_P_best c_P_best 2 (some .int) 3 [.ref (ya Z 0), .int x1] σ (some (.int res.1)) res.2 := by
  refine Ct.of pn_P (Nat.le_of_ble_eq_true rfl) rfl (fun Γ h => ?_)
  have h : IsG YC Z R_P c_P_best 2 3 (some .int) (some (.int res.1)) res.2 Γ := h
  unfold P_best at hf
  refine r_iload_n h d_P_best_0 1 rfl rfl ?_
  refine r_iconst h d_P_best_1 ki_2 ?_
  obtain ⟨r2, e2, hf⟩ := q_bind hf
  refine r_callS (As := [.int x1, .int (2 : Int32)]) (rest := []) h lk_P_96 sk_P_96 d_P_best_2 (by decide) rfl rfl (Nat.le_of_ble_eq_true rfl) (m_P_isBelow e2) ?_
  refine r_bif_ne h d_P_best_5 hf (fun hf => ?_) (fun hf => ?_)
  · refine r_aload_n h d_P_best_11 0 rfl rfl ?_
    refine r_getR h fd_YC_0_11 cf_P fl_P_85 d_P_best_12 ?_
    refine r_aload_n h d_P_best_15 0 rfl rfl ?_
    refine r_getR h fd_YC_0_0 cf_P fl_P_12 d_P_best_16 ?_
    obtain ⟨q19, e19, hf⟩ := q_bind hf
    refine r_callV (As := [.ref (ya Z 1)]) (rest := []) h sh_YC_67 lk_P_370 vk_P_370 d_P_best_19 (by decide) rfl rfl (Nat.le_of_ble_eq_true rfl) (m_Offers_plan e19) ?_
    refine r_iload_n h d_P_best_22 1 rfl rfl ?_
    refine r_if_ne h d_P_best_23 hf (fun hf => ?_) (fun hf => ?_)
    · refine r_aload_n h d_P_best_36 0 rfl rfl ?_
      refine r_getR h fd_YC_0_11 cf_P fl_P_85 d_P_best_37 ?_
      refine r_getI h fd_YC_67_8 cf_Offers fl_P_377 d_P_best_40 ?_
      exact r_ireturn h d_P_best_43.1 (q_p1 hf) (q_p2 hf)
    · refine r_aload_n h d_P_best_26 0 rfl rfl ?_
      refine r_getR h fd_YC_0_11 cf_P fl_P_85 d_P_best_27 ?_
      refine r_getI h fd_YC_67_7 cf_Offers fl_P_374 d_P_best_30 ?_
      refine r_goto h d_P_best_33 ?_
      exact r_ireturn h d_P_best_43.1 (q_p1 hf) (q_p2 hf)
  · refine r_bipush h d_P_best_8 kb_m2 ?_
    exact r_ireturn h d_P_best_10.1 (q_p1 hf) (q_p2 hf)

theorem d_P_judge_0 : decode c_P_judge 0 = .ok (.iload_n 1, 1) ∧ 0 + 1 = 1 := by decide +kernel
theorem d_P_judge_1 : decode c_P_judge 1 = .ok (.iconst 1, 1) ∧ 1 + 1 = 2 := by decide +kernel
theorem d_P_judge_2 : decode c_P_judge 2 = .ok (.aload_n 0, 1) ∧ 2 + 1 = 3 := by decide +kernel
theorem d_P_judge_3 : decode c_P_judge 3 = .ok (.getfield 85, 3) ∧ 3 + 3 = 6 := by decide +kernel
theorem d_P_judge_6 : decode c_P_judge 6 = .ok (.getfield 380, 3) ∧ 6 + 3 = 9 := by decide +kernel
theorem d_P_judge_9 : decode c_P_judge 9 = .ok (.ishl, 1) ∧ 9 + 1 = 10 := by decide +kernel
theorem d_P_judge_10 : decode c_P_judge 10 = .ok (.invokestatic 96, 3) ∧ 10 + 3 = 13 := by decide +kernel
theorem d_P_judge_13 : decode c_P_judge 13 = .ok (.ifCond .ne 6, 3) ∧ 13 + 3 = 16 ∧ ((13 : Nat) : Int) + 6 = ((19 : Nat) : Int) := by decide +kernel
theorem d_P_judge_16 : decode c_P_judge 16 = .ok (.bipush (-2), 2) ∧ 16 + 2 = 18 := by decide +kernel
theorem d_P_judge_18 : decode c_P_judge 18 = .ok (.ireturn, 1) ∧ 18 + 1 = 19 := by decide +kernel
theorem d_P_judge_19 : decode c_P_judge 19 = .ok (.aload_n 0, 1) ∧ 19 + 1 = 20 := by decide +kernel
theorem d_P_judge_20 : decode c_P_judge 20 = .ok (.getfield 85, 3) ∧ 20 + 3 = 23 := by decide +kernel
theorem d_P_judge_23 : decode c_P_judge 23 = .ok (.iload_n 1, 1) ∧ 23 + 1 = 24 := by decide +kernel
theorem d_P_judge_24 : decode c_P_judge 24 = .ok (.aload_n 0, 1) ∧ 24 + 1 = 25 := by decide +kernel
theorem d_P_judge_25 : decode c_P_judge 25 = .ok (.getfield 12, 3) ∧ 25 + 3 = 28 := by decide +kernel
theorem d_P_judge_28 : decode c_P_judge 28 = .ok (.invokevirtual 381, 3) ∧ 28 + 3 = 31 := by decide +kernel
theorem d_P_judge_31 : decode c_P_judge 31 = .ok (.ifCond .eq 7, 3) ∧ 31 + 3 = 34 ∧ ((31 : Nat) : Int) + 7 = ((38 : Nat) : Int) := by decide +kernel
theorem d_P_judge_34 : decode c_P_judge 34 = .ok (.iconst 1, 1) ∧ 34 + 1 = 35 := by decide +kernel
theorem d_P_judge_35 : decode c_P_judge 35 = .ok (.goto 4, 3) ∧ (35 : Int) + 4 = (39 : Int) := by decide +kernel
theorem d_P_judge_38 : decode c_P_judge 38 = .ok (.iconst 0, 1) ∧ 38 + 1 = 39 := by decide +kernel
theorem d_P_judge_39 : decode c_P_judge 39 = .ok (.ireturn, 1) ∧ 39 + 1 = 40 := by decide +kernel
set_option maxHeartbeats 4000000 in
theorem m_P_judge {Z : Sy} {σ : St} {res : (Int32 × St)} {x1 : Int32} (hf : P_judge x1 σ = some res) : Ct YC Z y_P_judge c_P_judge 2 (some .int) 2 [.ref (ya Z 0), .int x1] σ (some (.int res.1)) res.2 := by
  refine Ct.of pn_P (Nat.le_of_ble_eq_true rfl) rfl (fun Γ h => ?_)
  have h : IsG YC Z R_P c_P_judge 2 2 (some .int) (some (.int res.1)) res.2 Γ := h
  unfold P_judge at hf
  refine r_iload_n h d_P_judge_0 1 rfl rfl ?_
  refine r_iconst h d_P_judge_1 ki_1 ?_
  refine r_aload_n h d_P_judge_2 0 rfl rfl ?_
  refine r_getR h fd_YC_0_11 cf_P fl_P_85 d_P_judge_3 ?_
  refine r_getI h fd_YC_67_6 cf_Offers fl_P_380 d_P_judge_6 ?_
  refine r_ishl h d_P_judge_9 ?_
  obtain ⟨r10, e10, hf⟩ := q_bind hf
  refine r_callS (As := [.int x1, .int ((1 : Int32) <<< ((σ.1 67 6) &&& 31))]) (rest := []) h lk_P_96 sk_P_96 d_P_judge_10 (by decide) rfl rfl (Nat.le_of_ble_eq_true rfl) (m_P_isBelow e10) ?_
  refine r_bif_ne h d_P_judge_13 hf (fun hf => ?_) (fun hf => ?_)
  · refine r_aload_n h d_P_judge_19 0 rfl rfl ?_
    refine r_getR h fd_YC_0_11 cf_P fl_P_85 d_P_judge_20 ?_
    refine r_iload_n h d_P_judge_23 1 rfl rfl ?_
    refine r_aload_n h d_P_judge_24 0 rfl rfl ?_
    refine r_getR h fd_YC_0_0 cf_P fl_P_12 d_P_judge_25 ?_
    obtain ⟨q28, e28, hf⟩ := q_bind hf
    refine r_callV (As := [.int x1, .ref (ya Z 1)]) (rest := []) h sh_YC_67 lk_P_381 vk_P_381 d_P_judge_28 (by decide) rfl rfl (Nat.le_of_ble_eq_true rfl) (m_Offers_mayBe e28) ?_
    refine r_bif_eq h d_P_judge_31 hf (fun hf => ?_) (fun hf => ?_)
    · refine r_iconst h d_P_judge_38 ki_0 ?_
      exact r_ireturn h d_P_judge_39.1 (q_p1 hf) (q_p2 hf)
    · refine r_iconst h d_P_judge_34 ki_1 ?_
      refine r_goto h d_P_judge_35 ?_
      exact r_ireturn h d_P_judge_39.1 (q_p1 hf) (q_p2 hf)
  · refine r_bipush h d_P_judge_16 kb_m2 ?_
    exact r_ireturn h d_P_judge_18.1 (q_p1 hf) (q_p2 hf)

theorem d_Sheets_renew_0 : decode c_Sheets_renew 0 = .ok (.aload_n 0, 1) ∧ 0 + 1 = 1 := by decide +kernel
theorem d_Sheets_renew_1 : decode c_Sheets_renew 1 = .ok (.getfield 15, 3) ∧ 1 + 3 = 4 := by decide +kernel
theorem d_Sheets_renew_4 : decode c_Sheets_renew 4 = .ok (.iload_n 1, 1) ∧ 4 + 1 = 5 := by decide +kernel
theorem d_Sheets_renew_5 : decode c_Sheets_renew 5 = .ok (.iload_n 2, 1) ∧ 5 + 1 = 6 := by decide +kernel
theorem d_Sheets_renew_6 : decode c_Sheets_renew 6 = .ok (.iastore, 1) ∧ 6 + 1 = 7 := by decide +kernel
theorem d_Sheets_renew_7 : decode c_Sheets_renew 7 = .ok (.aload_n 0, 1) ∧ 7 + 1 = 8 := by decide +kernel
theorem d_Sheets_renew_8 : decode c_Sheets_renew 8 = .ok (.getfield 18, 3) ∧ 8 + 3 = 11 := by decide +kernel
theorem d_Sheets_renew_11 : decode c_Sheets_renew 11 = .ok (.iload_n 1, 1) ∧ 11 + 1 = 12 := by decide +kernel
theorem d_Sheets_renew_12 : decode c_Sheets_renew 12 = .ok (.iload_n 3, 1) ∧ 12 + 1 = 13 := by decide +kernel
theorem d_Sheets_renew_13 : decode c_Sheets_renew 13 = .ok (.iastore, 1) ∧ 13 + 1 = 14 := by decide +kernel
theorem d_Sheets_renew_14 : decode c_Sheets_renew 14 = .ok (.iconst 0, 1) ∧ 14 + 1 = 15 := by decide +kernel
theorem d_Sheets_renew_15 : decode c_Sheets_renew 15 = .ok (.istore 4, 2) ∧ 15 + 2 = 17 := by decide +kernel
theorem d_Sheets_renew_17 : decode c_Sheets_renew 17 = .ok (.iload 4, 2) ∧ 17 + 2 = 19 := by decide +kernel
theorem d_Sheets_renew_19 : decode c_Sheets_renew 19 = .ok (.iload_n 3, 1) ∧ 19 + 1 = 20 := by decide +kernel
theorem d_Sheets_renew_20 : decode c_Sheets_renew 20 = .ok (.if_icmp .ge 22, 3) ∧ 20 + 3 = 23 ∧ ((20 : Nat) : Int) + 22 = ((42 : Nat) : Int) := by decide +kernel
theorem d_Sheets_renew_23 : decode c_Sheets_renew 23 = .ok (.aload_n 0, 1) ∧ 23 + 1 = 24 := by decide +kernel
theorem d_Sheets_renew_24 : decode c_Sheets_renew 24 = .ok (.getfield 11, 3) ∧ 24 + 3 = 27 := by decide +kernel
theorem d_Sheets_renew_27 : decode c_Sheets_renew 27 = .ok (.iload_n 1, 1) ∧ 27 + 1 = 28 := by decide +kernel
theorem d_Sheets_renew_28 : decode c_Sheets_renew 28 = .ok (.bipush 60, 2) ∧ 28 + 2 = 30 := by decide +kernel
theorem d_Sheets_renew_30 : decode c_Sheets_renew 30 = .ok (.imul, 1) ∧ 30 + 1 = 31 := by decide +kernel
theorem d_Sheets_renew_31 : decode c_Sheets_renew 31 = .ok (.iload 4, 2) ∧ 31 + 2 = 33 := by decide +kernel
theorem d_Sheets_renew_33 : decode c_Sheets_renew 33 = .ok (.iadd, 1) ∧ 33 + 1 = 34 := by decide +kernel
theorem d_Sheets_renew_34 : decode c_Sheets_renew 34 = .ok (.iconst 0, 1) ∧ 34 + 1 = 35 := by decide +kernel
theorem d_Sheets_renew_35 : decode c_Sheets_renew 35 = .ok (.iastore, 1) ∧ 35 + 1 = 36 := by decide +kernel
theorem d_Sheets_renew_36 : decode c_Sheets_renew 36 = .ok (.iinc 4 1, 3) ∧ 36 + 3 = 39 := by decide +kernel
theorem d_Sheets_renew_39 : decode c_Sheets_renew 39 = .ok (.goto (-22), 3) ∧ (39 : Int) + (-22) = (17 : Int) := by decide +kernel
theorem d_Sheets_renew_42 : decode c_Sheets_renew 42 = .ok (.return_, 1) ∧ 42 + 1 = 43 := by decide +kernel
set_option maxHeartbeats 4000000 in
theorem w_Sheets_renew_L17 {Z : Sy} {Γ : Nat → List (Nat × Value) → List Value → St → Prop} {res : St} {x1 : Int32} {x3 : Int32} (h : IsG YC Z R_Sheets c_Sheets_renew 5 1 none none res Γ) : ∀ (n : Nat) (x4 : Int32) (σ : St), Sheets_renew_L17 x1 x3 n x4 σ = some res → Γ 17 [(0, .ref (ya Z 74)), (1, .int x1), (3, .int x3), (4, .int x4)] [] σ := by
  intro n
  induction n with
  | zero => intro x4 σ hf; exact absurd hf (by simp [Sheets_renew_L17])
  | succ n ih =>
    intro x4 σ hf
    rw [Sheets_renew_L17] at hf
    refine r_iload h d_Sheets_renew_17 3 rfl ?_
    refine r_iload_n h d_Sheets_renew_19 2 rfl rfl ?_
    refine r_icmp_ge h d_Sheets_renew_20 hf (fun hf => ?_) (fun hf => ?_)
    · exact r_vreturn h d_Sheets_renew_42.1 (Option.some.inj hf)
    · refine r_aload_n h d_Sheets_renew_23 0 rfl rfl ?_
      refine r_getR h fd_YC_74_0 cf_Sheets fl_Sheets_11 d_Sheets_renew_24 ?_
      refine r_iload_n h d_Sheets_renew_27 1 rfl rfl ?_
      refine r_bipush h d_Sheets_renew_28 kb_60 ?_
      refine r_imul h d_Sheets_renew_30 ?_
      refine r_iload h d_Sheets_renew_31 3 rfl ?_
      refine r_iadd h d_Sheets_renew_33 ?_
      refine r_iconst h d_Sheets_renew_34 ki_0 ?_
      refine r_iast h sh_YC_75 d_Sheets_renew_35 hf (fun hf => ?_)
      refine r_iinc (ls' := [(4, .int (x4 + (1 : Int32))), (0, .ref (ya Z 74)), (1, .int x1), (3, .int x3)]) h d_Sheets_renew_36 3 rfl ki_1 (by decide) rfl ?_
      refine r_goto h d_Sheets_renew_39 ?_
      refine r_sub h [1, 2, 3, 0] rfl ?_
      exact ih _ _ hf

set_option maxHeartbeats 4000000 in
theorem m_Sheets_renew {Z : Sy} {σ : St} {res : St} {x1 : Int32} {x2 : Int32} {x3 : Int32} (hf : Sheets_renew x1 x2 x3 σ = some res) : Ct YC Z y_Sheets_renew c_Sheets_renew 5 none 1 [.ref (ya Z 74), .int x1, .int x2, .int x3] σ none res := by
  refine Ct.of pn_Sheets (Nat.le_of_ble_eq_true rfl) rfl (fun Γ h => ?_)
  have h : IsG YC Z R_Sheets c_Sheets_renew 5 1 none none res Γ := h
  unfold Sheets_renew at hf
  refine r_aload_n h d_Sheets_renew_0 0 rfl rfl ?_
  refine r_getR h fd_YC_74_1 cf_Sheets fl_Sheets_15 d_Sheets_renew_1 ?_
  refine r_iload_n h d_Sheets_renew_4 1 rfl rfl ?_
  refine r_iload_n h d_Sheets_renew_5 2 rfl rfl ?_
  refine r_iast h sh_YC_76 d_Sheets_renew_6 hf (fun hf => ?_)
  refine r_aload_n h d_Sheets_renew_7 0 rfl rfl ?_
  refine r_getR h fd_YC_74_2 cf_Sheets fl_Sheets_18 d_Sheets_renew_8 ?_
  refine r_iload_n h d_Sheets_renew_11 1 rfl rfl ?_
  refine r_iload_n h d_Sheets_renew_12 3 rfl rfl ?_
  refine r_iast h sh_YC_77 d_Sheets_renew_13 hf (fun hf => ?_)
  refine r_iconst h d_Sheets_renew_14 ki_0 ?_
  refine r_istore (ls' := [(4, .int (0 : Int32)), (0, .ref (ya Z 74)), (1, .int x1), (2, .int x2), (3, .int x3)]) h d_Sheets_renew_15 (by decide) rfl ?_
  refine r_sub h [1, 2, 4, 0] rfl ?_
  exact w_Sheets_renew_L17 h _ _ _ hf

theorem d_P_sheet_0 : decode c_P_sheet 0 = .ok (.aload_n 0, 1) ∧ 0 + 1 = 1 := by decide +kernel
theorem d_P_sheet_1 : decode c_P_sheet 1 = .ok (.iconst 0, 1) ∧ 1 + 1 = 2 := by decide +kernel
theorem d_P_sheet_2 : decode c_P_sheet 2 = .ok (.putfield 152, 3) ∧ 2 + 3 = 5 := by decide +kernel
theorem d_P_sheet_5 : decode c_P_sheet 5 = .ok (.aload_n 0, 1) ∧ 5 + 1 = 6 := by decide +kernel
theorem d_P_sheet_6 : decode c_P_sheet 6 = .ok (.getfield 92, 3) ∧ 6 + 3 = 9 := by decide +kernel
theorem d_P_sheet_9 : decode c_P_sheet 9 = .ok (.iload_n 1, 1) ∧ 9 + 1 = 10 := by decide +kernel
theorem d_P_sheet_10 : decode c_P_sheet 10 = .ok (.invokevirtual 156, 3) ∧ 10 + 3 = 13 := by decide +kernel
theorem d_P_sheet_13 : decode c_P_sheet 13 = .ok (.ifCond .ne 5, 3) ∧ 13 + 3 = 16 ∧ ((13 : Nat) : Int) + 5 = ((18 : Nat) : Int) := by decide +kernel
theorem d_P_sheet_16 : decode c_P_sheet 16 = .ok (.iconst (-1), 1) ∧ 16 + 1 = 17 := by decide +kernel
theorem d_P_sheet_17 : decode c_P_sheet 17 = .ok (.ireturn, 1) ∧ 17 + 1 = 18 := by decide +kernel
theorem d_P_sheet_18 : decode c_P_sheet 18 = .ok (.iload_n 2, 1) ∧ 18 + 1 = 19 := by decide +kernel
theorem d_P_sheet_19 : decode c_P_sheet 19 = .ok (.iconst 3, 1) ∧ 19 + 1 = 20 := by decide +kernel
theorem d_P_sheet_20 : decode c_P_sheet 20 = .ok (.invokestatic 96, 3) ∧ 20 + 3 = 23 := by decide +kernel
theorem d_P_sheet_23 : decode c_P_sheet 23 = .ok (.ifCond .eq 9, 3) ∧ 23 + 3 = 26 ∧ ((23 : Nat) : Int) + 9 = ((32 : Nat) : Int) := by decide +kernel
theorem d_P_sheet_26 : decode c_P_sheet 26 = .ok (.iload_n 3, 1) ∧ 26 + 1 = 27 := by decide +kernel
theorem d_P_sheet_27 : decode c_P_sheet 27 = .ok (.bipush 60, 2) ∧ 27 + 2 = 29 := by decide +kernel
theorem d_P_sheet_29 : decode c_P_sheet 29 = .ok (.if_icmp .le 6, 3) ∧ 29 + 3 = 32 ∧ ((29 : Nat) : Int) + 6 = ((35 : Nat) : Int) := by decide +kernel
theorem d_P_sheet_32 : decode c_P_sheet 32 = .ok (.bipush (-2), 2) ∧ 32 + 2 = 34 := by decide +kernel
theorem d_P_sheet_34 : decode c_P_sheet 34 = .ok (.ireturn, 1) ∧ 34 + 1 = 35 := by decide +kernel
theorem d_P_sheet_35 : decode c_P_sheet 35 = .ok (.iload_n 3, 1) ∧ 35 + 1 = 36 := by decide +kernel
theorem d_P_sheet_36 : decode c_P_sheet 36 = .ok (.ifCond .ge 9, 3) ∧ 36 + 3 = 39 ∧ ((36 : Nat) : Int) + 9 = ((45 : Nat) : Int) := by decide +kernel
theorem d_P_sheet_39 : decode c_P_sheet 39 = .ok (.aload_n 0, 1) ∧ 39 + 1 = 40 := by decide +kernel
theorem d_P_sheet_40 : decode c_P_sheet 40 = .ok (.iconst 4, 1) ∧ 40 + 1 = 41 := by decide +kernel
theorem d_P_sheet_41 : decode c_P_sheet 41 = .ok (.invokevirtual 163, 3) ∧ 41 + 3 = 44 := by decide +kernel
theorem d_P_sheet_44 : decode c_P_sheet 44 = .ok (.ireturn, 1) ∧ 44 + 1 = 45 := by decide +kernel
theorem d_P_sheet_45 : decode c_P_sheet 45 = .ok (.aload_n 0, 1) ∧ 45 + 1 = 46 := by decide +kernel
theorem d_P_sheet_46 : decode c_P_sheet 46 = .ok (.getfield 92, 3) ∧ 46 + 3 = 49 := by decide +kernel
theorem d_P_sheet_49 : decode c_P_sheet 49 = .ok (.iload_n 1, 1) ∧ 49 + 1 = 50 := by decide +kernel
theorem d_P_sheet_50 : decode c_P_sheet 50 = .ok (.iload_n 2, 1) ∧ 50 + 1 = 51 := by decide +kernel
theorem d_P_sheet_51 : decode c_P_sheet 51 = .ok (.iload_n 3, 1) ∧ 51 + 1 = 52 := by decide +kernel
theorem d_P_sheet_52 : decode c_P_sheet 52 = .ok (.invokevirtual 385, 3) ∧ 52 + 3 = 55 := by decide +kernel
theorem d_P_sheet_55 : decode c_P_sheet 55 = .ok (.iconst 1, 1) ∧ 55 + 1 = 56 := by decide +kernel
theorem d_P_sheet_56 : decode c_P_sheet 56 = .ok (.ireturn, 1) ∧ 56 + 1 = 57 := by decide +kernel
set_option maxHeartbeats 4000000 in
theorem m_P_sheet {Z : Sy} {σ : St} {res : (Int32 × St)} {x1 : Int32} {x2 : Int32} {x3 : Int32} (hf : P_sheet x1 x2 x3 σ = some res) : Ct YC Z y_P_sheet c_P_sheet 4 (some .int) 3 [.ref (ya Z 0), .int x1, .int x2, .int x3] σ (some (.int res.1)) res.2 := by
  refine Ct.of pn_P (Nat.le_of_ble_eq_true rfl) rfl (fun Γ h => ?_)
  have h : IsG YC Z R_P c_P_sheet 4 3 (some .int) (some (.int res.1)) res.2 Γ := h
  unfold P_sheet at hf
  refine r_aload_n h d_P_sheet_0 0 rfl rfl ?_
  refine r_iconst h d_P_sheet_1 ki_0 ?_
  refine r_putI h fd_YC_0_13 cf_P fl_P_152 ⟨rfl, rfl⟩ d_P_sheet_2 ?_
  refine r_aload_n h d_P_sheet_5 0 rfl rfl ?_
  refine r_getR h fd_YC_0_12 cf_P fl_P_92 d_P_sheet_6 ?_
  refine r_iload_n h d_P_sheet_9 1 rfl rfl ?_
  obtain ⟨r10, e10, hf⟩ := q_bind hf
  refine r_callV (As := [.int x1]) (rest := []) h sh_YC_74 lk_P_156 vk_P_156 d_P_sheet_10 (by decide) rfl rfl (Nat.le_of_ble_eq_true rfl) (m_Sheets_has e10) ?_
  refine r_bif_ne h d_P_sheet_13 hf (fun hf => ?_) (fun hf => ?_)
  · refine r_iload_n h d_P_sheet_18 2 rfl rfl ?_
    refine r_iconst h d_P_sheet_19 ki_3 ?_
    obtain ⟨r20, e20, hf⟩ := q_bind hf
    refine r_callS (As := [.int x2, .int (3 : Int32)]) (rest := []) h lk_P_96 sk_P_96 d_P_sheet_20 (by decide) rfl rfl (Nat.le_of_ble_eq_true rfl) (m_P_isBelow e20) ?_
    refine r_bif_eq h d_P_sheet_23 hf (fun hf => ?_) (fun hf => ?_)
    · refine r_bipush h d_P_sheet_32 kb_m2 ?_
      exact r_ireturn h d_P_sheet_34.1 (q_p1 hf) (q_p2 hf)
    · refine r_iload_n h d_P_sheet_26 3 rfl rfl ?_
      refine r_bipush h d_P_sheet_27 kb_60 ?_
      refine r_icmp_le h d_P_sheet_29 hf (fun hf => ?_) (fun hf => ?_)
      · refine r_iload_n h d_P_sheet_35 3 rfl rfl ?_
        refine r_if_ge h d_P_sheet_36 hf (fun hf => ?_) (fun hf => ?_)
        · refine r_aload_n h d_P_sheet_45 0 rfl rfl ?_
          refine r_getR h fd_YC_0_12 cf_P fl_P_92 d_P_sheet_46 ?_
          refine r_iload_n h d_P_sheet_49 1 rfl rfl ?_
          refine r_iload_n h d_P_sheet_50 2 rfl rfl ?_
          refine r_iload_n h d_P_sheet_51 3 rfl rfl ?_
          obtain ⟨q52, e52, hf⟩ := q_bind hf
          refine r_callV (As := [.int x1, .int x2, .int x3]) (rest := []) h sh_YC_74 lk_P_385 vk_P_385 d_P_sheet_52 (by decide) rfl rfl (Nat.le_of_ble_eq_true rfl) (m_Sheets_renew e52) ?_
          refine r_iconst h d_P_sheet_55 ki_1 ?_
          exact r_ireturn h d_P_sheet_56.1 (q_p1 hf) (q_p2 hf)
        · refine r_aload_n h d_P_sheet_39 0 rfl rfl ?_
          refine r_iconst h d_P_sheet_40 ki_4 ?_
          obtain ⟨q41, e41, hf⟩ := q_bind hf
          refine r_callV (As := [.int (4 : Int32)]) (rest := []) h sh_YC_0 lk_P_163 vk_P_163 d_P_sheet_41 (by decide) rfl rfl (Nat.le_of_ble_eq_true rfl) (m_P_faulted e41) ?_
          exact r_ireturn h d_P_sheet_44.1 (q_p1 hf) (q_p2 hf)
      · refine r_bipush h d_P_sheet_32 kb_m2 ?_
        exact r_ireturn h d_P_sheet_34.1 (q_p1 hf) (q_p2 hf)
  · refine r_iconst h d_P_sheet_16 ki_m1 ?_
    exact r_ireturn h d_P_sheet_17.1 (q_p1 hf) (q_p2 hf)

theorem d_P_lose_0 : decode c_P_lose 0 = .ok (.aload_n 0, 1) ∧ 0 + 1 = 1 := by decide +kernel
theorem d_P_lose_1 : decode c_P_lose 1 = .ok (.getfield 92, 3) ∧ 1 + 3 = 4 := by decide +kernel
theorem d_P_lose_4 : decode c_P_lose 4 = .ok (.iload_n 1, 1) ∧ 4 + 1 = 5 := by decide +kernel
theorem d_P_lose_5 : decode c_P_lose 5 = .ok (.invokevirtual 156, 3) ∧ 5 + 3 = 8 := by decide +kernel
theorem d_P_lose_8 : decode c_P_lose 8 = .ok (.ifCond .ne 5, 3) ∧ 8 + 3 = 11 ∧ ((8 : Nat) : Int) + 5 = ((13 : Nat) : Int) := by decide +kernel
theorem d_P_lose_11 : decode c_P_lose 11 = .ok (.iconst (-1), 1) ∧ 11 + 1 = 12 := by decide +kernel
theorem d_P_lose_12 : decode c_P_lose 12 = .ok (.ireturn, 1) ∧ 12 + 1 = 13 := by decide +kernel
theorem d_P_lose_13 : decode c_P_lose 13 = .ok (.aload_n 0, 1) ∧ 13 + 1 = 14 := by decide +kernel
theorem d_P_lose_14 : decode c_P_lose 14 = .ok (.getfield 92, 3) ∧ 14 + 3 = 17 := by decide +kernel
theorem d_P_lose_17 : decode c_P_lose 17 = .ok (.iload_n 1, 1) ∧ 17 + 1 = 18 := by decide +kernel
theorem d_P_lose_18 : decode c_P_lose 18 = .ok (.invokevirtual 389, 3) ∧ 18 + 3 = 21 := by decide +kernel
theorem d_P_lose_21 : decode c_P_lose 21 = .ok (.ifCond .eq 7, 3) ∧ 21 + 3 = 24 ∧ ((21 : Nat) : Int) + 7 = ((28 : Nat) : Int) := by decide +kernel
theorem d_P_lose_24 : decode c_P_lose 24 = .ok (.iconst 0, 1) ∧ 24 + 1 = 25 := by decide +kernel
theorem d_P_lose_25 : decode c_P_lose 25 = .ok (.goto 4, 3) ∧ (25 : Int) + 4 = (29 : Int) := by decide +kernel
theorem d_P_lose_28 : decode c_P_lose 28 = .ok (.iconst 1, 1) ∧ 28 + 1 = 29 := by decide +kernel
theorem d_P_lose_29 : decode c_P_lose 29 = .ok (.istore_n 2, 1) ∧ 29 + 1 = 30 := by decide +kernel
theorem d_P_lose_30 : decode c_P_lose 30 = .ok (.aload_n 0, 1) ∧ 30 + 1 = 31 := by decide +kernel
theorem d_P_lose_31 : decode c_P_lose 31 = .ok (.getfield 92, 3) ∧ 31 + 3 = 34 := by decide +kernel
theorem d_P_lose_34 : decode c_P_lose 34 = .ok (.getfield 392, 3) ∧ 34 + 3 = 37 := by decide +kernel
theorem d_P_lose_37 : decode c_P_lose 37 = .ok (.iload_n 1, 1) ∧ 37 + 1 = 38 := by decide +kernel
theorem d_P_lose_38 : decode c_P_lose 38 = .ok (.bipush (-9), 2) ∧ 38 + 2 = 40 := by decide +kernel
theorem d_P_lose_40 : decode c_P_lose 40 = .ok (.iastore, 1) ∧ 40 + 1 = 41 := by decide +kernel
theorem d_P_lose_41 : decode c_P_lose 41 = .ok (.iload_n 2, 1) ∧ 41 + 1 = 42 := by decide +kernel
theorem d_P_lose_42 : decode c_P_lose 42 = .ok (.ireturn, 1) ∧ 42 + 1 = 43 := by decide +kernel
set_option maxHeartbeats 4000000 in
theorem m_P_lose {Z : Sy} {σ : St} {res : (Int32 × St)} {x1 : Int32} (hf : P_lose x1 σ = some res) : Ct YC Z y_P_lose c_P_lose 3 (some .int) 3 [.ref (ya Z 0), .int x1] σ (some (.int res.1)) res.2 := by
  refine Ct.of pn_P (Nat.le_of_ble_eq_true rfl) rfl (fun Γ h => ?_)
  have h : IsG YC Z R_P c_P_lose 3 3 (some .int) (some (.int res.1)) res.2 Γ := h
  unfold P_lose at hf
  refine r_aload_n h d_P_lose_0 0 rfl rfl ?_
  refine r_getR h fd_YC_0_12 cf_P fl_P_92 d_P_lose_1 ?_
  refine r_iload_n h d_P_lose_4 1 rfl rfl ?_
  obtain ⟨r5, e5, hf⟩ := q_bind hf
  refine r_callV (As := [.int x1]) (rest := []) h sh_YC_74 lk_P_156 vk_P_156 d_P_lose_5 (by decide) rfl rfl (Nat.le_of_ble_eq_true rfl) (m_Sheets_has e5) ?_
  refine r_bif_ne h d_P_lose_8 hf (fun hf => ?_) (fun hf => ?_)
  · refine r_aload_n h d_P_lose_13 0 rfl rfl ?_
    refine r_getR h fd_YC_0_12 cf_P fl_P_92 d_P_lose_14 ?_
    refine r_iload_n h d_P_lose_17 1 rfl rfl ?_
    obtain ⟨r18, e18, hf⟩ := q_bind hf
    refine r_callV (As := [.int x1]) (rest := []) h sh_YC_74 lk_P_389 vk_P_389 d_P_lose_18 (by decide) rfl rfl (Nat.le_of_ble_eq_true rfl) (m_Sheets_isNothing e18) ?_
    refine r_bif_eq h d_P_lose_21 hf (fun hf => ?_) (fun hf => ?_)
    · refine r_iconst h d_P_lose_28 ki_1 ?_
      refine r_istore_n (ls' := [(2, .int (1 : Int32)), (0, .ref (ya Z 0)), (1, .int x1)]) h d_P_lose_29 rfl (by decide) rfl ?_
      refine r_aload_n h d_P_lose_30 1 rfl rfl ?_
      refine r_getR h fd_YC_0_12 cf_P fl_P_92 d_P_lose_31 ?_
      refine r_getR h fd_YC_74_2 cf_Sheets fl_P_392 d_P_lose_34 ?_
      refine r_iload_n h d_P_lose_37 2 rfl rfl ?_
      refine r_bipush h d_P_lose_38 kb_m9 ?_
      refine r_iast h sh_YC_77 d_P_lose_40 hf (fun hf => ?_)
      refine r_iload_n h d_P_lose_41 0 rfl rfl ?_
      exact r_ireturn h d_P_lose_42.1 (q_p1 hf) (q_p2 hf)
    · refine r_iconst h d_P_lose_24 ki_0 ?_
      refine r_goto h d_P_lose_25 ?_
      refine r_istore_n (ls' := [(2, .int (0 : Int32)), (0, .ref (ya Z 0)), (1, .int x1)]) h d_P_lose_29 rfl (by decide) rfl ?_
      refine r_aload_n h d_P_lose_30 1 rfl rfl ?_
      refine r_getR h fd_YC_0_12 cf_P fl_P_92 d_P_lose_31 ?_
      refine r_getR h fd_YC_74_2 cf_Sheets fl_P_392 d_P_lose_34 ?_
      refine r_iload_n h d_P_lose_37 2 rfl rfl ?_
      refine r_bipush h d_P_lose_38 kb_m9 ?_
      refine r_iast h sh_YC_77 d_P_lose_40 hf (fun hf => ?_)
      refine r_iload_n h d_P_lose_41 0 rfl rfl ?_
      exact r_ireturn h d_P_lose_42.1 (q_p1 hf) (q_p2 hf)
  · refine r_iconst h d_P_lose_11 ki_m1 ?_
    exact r_ireturn h d_P_lose_12.1 (q_p1 hf) (q_p2 hf)

theorem d_Sheets_cutTo_0 : decode c_Sheets_cutTo 0 = .ok (.iload_n 0, 1) ∧ 0 + 1 = 1 := by decide +kernel
theorem d_Sheets_cutTo_1 : decode c_Sheets_cutTo 1 = .ok (.lookupswitch 33 #[(0, 27), (1, 30)], 27) ∧ 1 + 27 = 28 := by decide +kernel
theorem d_Sheets_cutTo_28 : decode c_Sheets_cutTo 28 = .ok (.iload_n 1, 1) ∧ 28 + 1 = 29 := by decide +kernel
theorem d_Sheets_cutTo_29 : decode c_Sheets_cutTo 29 = .ok (.i2b, 1) ∧ 29 + 1 = 30 := by decide +kernel
theorem d_Sheets_cutTo_30 : decode c_Sheets_cutTo 30 = .ok (.ireturn, 1) ∧ 30 + 1 = 31 := by decide +kernel
theorem d_Sheets_cutTo_31 : decode c_Sheets_cutTo 31 = .ok (.iload_n 1, 1) ∧ 31 + 1 = 32 := by decide +kernel
theorem d_Sheets_cutTo_32 : decode c_Sheets_cutTo 32 = .ok (.i2s, 1) ∧ 32 + 1 = 33 := by decide +kernel
theorem d_Sheets_cutTo_33 : decode c_Sheets_cutTo 33 = .ok (.ireturn, 1) ∧ 33 + 1 = 34 := by decide +kernel
theorem d_Sheets_cutTo_34 : decode c_Sheets_cutTo 34 = .ok (.iload_n 1, 1) ∧ 34 + 1 = 35 := by decide +kernel
theorem d_Sheets_cutTo_35 : decode c_Sheets_cutTo 35 = .ok (.ireturn, 1) ∧ 35 + 1 = 36 := by decide +kernel
set_option maxHeartbeats 4000000 in
theorem m_Sheets_cutTo {Z : Sy} {σ : St} {res : Int32} {x0 : Int32} {x1 : Int32} (hf : Sheets_cutTo x0 x1 σ = some res) : Ct YC Z y_Sheets_cutTo c_Sheets_cutTo 2 (some .int) 1 [.int x0, .int x1] σ (some (.int res)) σ := by
  refine Ct.of pn_Sheets (Nat.le_of_ble_eq_true rfl) rfl (fun Γ h => ?_)
  have h : IsG YC Z R_Sheets c_Sheets_cutTo 2 1 (some .int) (some (.int res)) σ Γ := h
  unfold Sheets_cutTo at hf
  refine r_iload_n h d_Sheets_cutTo_0 0 rfl rfl ?_
  refine q_case hf (fun hq hf => ?_) (fun hn0 hf => ?_)
  · refine r_look (tgt := 28) (off := 27) h d_Sheets_cutTo_1.1 (by decide) (by rw [hq]; decide) (by decide) ?_
    refine r_iload_n h d_Sheets_cutTo_28 1 rfl rfl ?_
    refine r_i2b h d_Sheets_cutTo_29 ?_
    exact r_ireturn h d_Sheets_cutTo_30.1 (Option.some.inj hf) rfl
  ·
    refine q_case hf (fun hq hf => ?_) (fun hn1 hf => ?_)
    · refine r_look (tgt := 31) (off := 30) h d_Sheets_cutTo_1.1 (by decide) (by rw [hq]; decide) (by decide) ?_
      refine r_iload_n h d_Sheets_cutTo_31 1 rfl rfl ?_
      refine r_i2s h d_Sheets_cutTo_32 ?_
      exact r_ireturn h d_Sheets_cutTo_33.1 (Option.some.inj hf) rfl
    ·
      have g0 := (q_neI hn0).symm
      have g1 := (q_neI hn1).symm
      refine r_look (tgt := 34) (off := 33) h d_Sheets_cutTo_1.1 (by decide) (by simp at g0 g1; simp [Op.lookupswitch.offset, *]) (by decide) ?_
      refine r_iload_n h d_Sheets_cutTo_34 1 rfl rfl ?_
      exact r_ireturn h d_Sheets_cutTo_35.1 (Option.some.inj hf) rfl

theorem d_Sheets_write_0 : decode c_Sheets_write 0 = .ok (.aload_n 0, 1) ∧ 0 + 1 = 1 := by decide +kernel
theorem d_Sheets_write_1 : decode c_Sheets_write 1 = .ok (.getfield 11, 3) ∧ 1 + 3 = 4 := by decide +kernel
theorem d_Sheets_write_4 : decode c_Sheets_write 4 = .ok (.iload_n 1, 1) ∧ 4 + 1 = 5 := by decide +kernel
theorem d_Sheets_write_5 : decode c_Sheets_write 5 = .ok (.bipush 60, 2) ∧ 5 + 2 = 7 := by decide +kernel
theorem d_Sheets_write_7 : decode c_Sheets_write 7 = .ok (.imul, 1) ∧ 7 + 1 = 8 := by decide +kernel
theorem d_Sheets_write_8 : decode c_Sheets_write 8 = .ok (.iload_n 2, 1) ∧ 8 + 1 = 9 := by decide +kernel
theorem d_Sheets_write_9 : decode c_Sheets_write 9 = .ok (.iadd, 1) ∧ 9 + 1 = 10 := by decide +kernel
theorem d_Sheets_write_10 : decode c_Sheets_write 10 = .ok (.aload_n 0, 1) ∧ 10 + 1 = 11 := by decide +kernel
theorem d_Sheets_write_11 : decode c_Sheets_write 11 = .ok (.getfield 15, 3) ∧ 11 + 3 = 14 := by decide +kernel
theorem d_Sheets_write_14 : decode c_Sheets_write 14 = .ok (.iload_n 1, 1) ∧ 14 + 1 = 15 := by decide +kernel
theorem d_Sheets_write_15 : decode c_Sheets_write 15 = .ok (.iaload, 1) ∧ 15 + 1 = 16 := by decide +kernel
theorem d_Sheets_write_16 : decode c_Sheets_write 16 = .ok (.iload_n 3, 1) ∧ 16 + 1 = 17 := by decide +kernel
theorem d_Sheets_write_17 : decode c_Sheets_write 17 = .ok (.invokestatic 33, 3) ∧ 17 + 3 = 20 := by decide +kernel
theorem d_Sheets_write_20 : decode c_Sheets_write 20 = .ok (.iastore, 1) ∧ 20 + 1 = 21 := by decide +kernel
theorem d_Sheets_write_21 : decode c_Sheets_write 21 = .ok (.return_, 1) ∧ 21 + 1 = 22 := by decide +kernel
set_option maxHeartbeats 4000000 in
theorem m_Sheets_write {Z : Sy} {σ : St} {res : St} {x1 : Int32} {x2 : Int32} {x3 : Int32} (hf : Sheets_write x1 x2 x3 σ = some res) : Ct YC Z y_Sheets_write c_Sheets_write 4 none 2 [.ref (ya Z 74), .int x1, .int x2, .int x3] σ none res := by
  refine Ct.of pn_Sheets (Nat.le_of_ble_eq_true rfl) rfl (fun Γ h => ?_)
  have h : IsG YC Z R_Sheets c_Sheets_write 4 2 none none res Γ := h
  unfold Sheets_write at hf
  refine r_aload_n h d_Sheets_write_0 0 rfl rfl ?_
  refine r_getR h fd_YC_74_0 cf_Sheets fl_Sheets_11 d_Sheets_write_1 ?_
  refine r_iload_n h d_Sheets_write_4 1 rfl rfl ?_
  refine r_bipush h d_Sheets_write_5 kb_60 ?_
  refine r_imul h d_Sheets_write_7 ?_
  refine r_iload_n h d_Sheets_write_8 2 rfl rfl ?_
  refine r_iadd h d_Sheets_write_9 ?_
  refine r_aload_n h d_Sheets_write_10 0 rfl rfl ?_
  refine r_getR h fd_YC_74_1 cf_Sheets fl_Sheets_15 d_Sheets_write_11 ?_
  refine r_iload_n h d_Sheets_write_14 1 rfl rfl ?_
  refine r_iald h sh_YC_76 d_Sheets_write_15 hf (fun hf => ?_)
  refine r_iload_n h d_Sheets_write_16 3 rfl rfl ?_
  obtain ⟨r17, e17, hf⟩ := q_bind hf
  refine r_callS (As := [.int (σ.1 76 (Int32.toNatClampNeg x1)), .int x3]) (rest := [.int ((x1 * (60 : Int32)) + x2), .ref (ya Z 75)]) h lk_Sheets_33 sk_Sheets_33 d_Sheets_write_17 (by decide) rfl rfl (Nat.le_of_ble_eq_true rfl) (m_Sheets_cutTo e17) ?_
  refine r_iast h sh_YC_75 d_Sheets_write_20 hf (fun hf => ?_)
  exact r_vreturn h d_Sheets_write_21.1 (Option.some.inj hf)

theorem d_P_put_0 : decode c_P_put 0 = .ok (.aload_n 0, 1) ∧ 0 + 1 = 1 := by decide +kernel
theorem d_P_put_1 : decode c_P_put 1 = .ok (.iconst 0, 1) ∧ 1 + 1 = 2 := by decide +kernel
theorem d_P_put_2 : decode c_P_put 2 = .ok (.putfield 152, 3) ∧ 2 + 3 = 5 := by decide +kernel
theorem d_P_put_5 : decode c_P_put 5 = .ok (.aload_n 0, 1) ∧ 5 + 1 = 6 := by decide +kernel
theorem d_P_put_6 : decode c_P_put 6 = .ok (.getfield 92, 3) ∧ 6 + 3 = 9 := by decide +kernel
theorem d_P_put_9 : decode c_P_put 9 = .ok (.iload_n 1, 1) ∧ 9 + 1 = 10 := by decide +kernel
theorem d_P_put_10 : decode c_P_put 10 = .ok (.invokevirtual 156, 3) ∧ 10 + 3 = 13 := by decide +kernel
theorem d_P_put_13 : decode c_P_put 13 = .ok (.ifCond .ne 5, 3) ∧ 13 + 3 = 16 ∧ ((13 : Nat) : Int) + 5 = ((18 : Nat) : Int) := by decide +kernel
theorem d_P_put_16 : decode c_P_put 16 = .ok (.iconst (-1), 1) ∧ 16 + 1 = 17 := by decide +kernel
theorem d_P_put_17 : decode c_P_put 17 = .ok (.ireturn, 1) ∧ 17 + 1 = 18 := by decide +kernel
theorem d_P_put_18 : decode c_P_put 18 = .ok (.aload_n 0, 1) ∧ 18 + 1 = 19 := by decide +kernel
theorem d_P_put_19 : decode c_P_put 19 = .ok (.getfield 92, 3) ∧ 19 + 3 = 22 := by decide +kernel
theorem d_P_put_22 : decode c_P_put 22 = .ok (.iload_n 1, 1) ∧ 22 + 1 = 23 := by decide +kernel
theorem d_P_put_23 : decode c_P_put 23 = .ok (.invokevirtual 389, 3) ∧ 23 + 3 = 26 := by decide +kernel
theorem d_P_put_26 : decode c_P_put 26 = .ok (.ifCond .eq 9, 3) ∧ 26 + 3 = 29 ∧ ((26 : Nat) : Int) + 9 = ((35 : Nat) : Int) := by decide +kernel
theorem d_P_put_29 : decode c_P_put 29 = .ok (.aload_n 0, 1) ∧ 29 + 1 = 30 := by decide +kernel
theorem d_P_put_30 : decode c_P_put 30 = .ok (.iconst 1, 1) ∧ 30 + 1 = 31 := by decide +kernel
theorem d_P_put_31 : decode c_P_put 31 = .ok (.invokevirtual 163, 3) ∧ 31 + 3 = 34 := by decide +kernel
theorem d_P_put_34 : decode c_P_put 34 = .ok (.ireturn, 1) ∧ 34 + 1 = 35 := by decide +kernel
theorem d_P_put_35 : decode c_P_put 35 = .ok (.iload_n 2, 1) ∧ 35 + 1 = 36 := by decide +kernel
theorem d_P_put_36 : decode c_P_put 36 = .ok (.aload_n 0, 1) ∧ 36 + 1 = 37 := by decide +kernel
theorem d_P_put_37 : decode c_P_put 37 = .ok (.getfield 92, 3) ∧ 37 + 3 = 40 := by decide +kernel
theorem d_P_put_40 : decode c_P_put 40 = .ok (.getfield 392, 3) ∧ 40 + 3 = 43 := by decide +kernel
theorem d_P_put_43 : decode c_P_put 43 = .ok (.iload_n 1, 1) ∧ 43 + 1 = 44 := by decide +kernel
theorem d_P_put_44 : decode c_P_put 44 = .ok (.iaload, 1) ∧ 44 + 1 = 45 := by decide +kernel
theorem d_P_put_45 : decode c_P_put 45 = .ok (.invokestatic 96, 3) ∧ 45 + 3 = 48 := by decide +kernel
theorem d_P_put_48 : decode c_P_put 48 = .ok (.ifCond .ne 9, 3) ∧ 48 + 3 = 51 ∧ ((48 : Nat) : Int) + 9 = ((57 : Nat) : Int) := by decide +kernel
theorem d_P_put_51 : decode c_P_put 51 = .ok (.aload_n 0, 1) ∧ 51 + 1 = 52 := by decide +kernel
theorem d_P_put_52 : decode c_P_put 52 = .ok (.iconst 3, 1) ∧ 52 + 1 = 53 := by decide +kernel
theorem d_P_put_53 : decode c_P_put 53 = .ok (.invokevirtual 163, 3) ∧ 53 + 3 = 56 := by decide +kernel
theorem d_P_put_56 : decode c_P_put 56 = .ok (.ireturn, 1) ∧ 56 + 1 = 57 := by decide +kernel
theorem d_P_put_57 : decode c_P_put 57 = .ok (.aload_n 0, 1) ∧ 57 + 1 = 58 := by decide +kernel
theorem d_P_put_58 : decode c_P_put 58 = .ok (.getfield 92, 3) ∧ 58 + 3 = 61 := by decide +kernel
theorem d_P_put_61 : decode c_P_put 61 = .ok (.iload_n 1, 1) ∧ 61 + 1 = 62 := by decide +kernel
theorem d_P_put_62 : decode c_P_put 62 = .ok (.iload_n 2, 1) ∧ 62 + 1 = 63 := by decide +kernel
theorem d_P_put_63 : decode c_P_put 63 = .ok (.iload_n 3, 1) ∧ 63 + 1 = 64 := by decide +kernel
theorem d_P_put_64 : decode c_P_put 64 = .ok (.invokevirtual 395, 3) ∧ 64 + 3 = 67 := by decide +kernel
theorem d_P_put_67 : decode c_P_put 67 = .ok (.iconst 1, 1) ∧ 67 + 1 = 68 := by decide +kernel
theorem d_P_put_68 : decode c_P_put 68 = .ok (.ireturn, 1) ∧ 68 + 1 = 69 := by decide +kernel
set_option maxHeartbeats 4000000 in
theorem m_P_put {Z : Sy} {σ : St} {res : (Int32 × St)} {x1 : Int32} {x2 : Int32} {x3 : Int32} (hf : P_put x1 x2 x3 σ = some res) : Ct YC Z y_P_put c_P_put 4 (some .int) 3 [.ref (ya Z 0), .int x1, .int x2, .int x3] σ (some (.int res.1)) res.2 := by
  refine Ct.of pn_P (Nat.le_of_ble_eq_true rfl) rfl (fun Γ h => ?_)
  have h : IsG YC Z R_P c_P_put 4 3 (some .int) (some (.int res.1)) res.2 Γ := h
  unfold P_put at hf
  refine r_aload_n h d_P_put_0 0 rfl rfl ?_
  refine r_iconst h d_P_put_1 ki_0 ?_
  refine r_putI h fd_YC_0_13 cf_P fl_P_152 ⟨rfl, rfl⟩ d_P_put_2 ?_
  refine r_aload_n h d_P_put_5 0 rfl rfl ?_
  refine r_getR h fd_YC_0_12 cf_P fl_P_92 d_P_put_6 ?_
  refine r_iload_n h d_P_put_9 1 rfl rfl ?_
  obtain ⟨r10, e10, hf⟩ := q_bind hf
  refine r_callV (As := [.int x1]) (rest := []) h sh_YC_74 lk_P_156 vk_P_156 d_P_put_10 (by decide) rfl rfl (Nat.le_of_ble_eq_true rfl) (m_Sheets_has e10) ?_
  refine r_bif_ne h d_P_put_13 hf (fun hf => ?_) (fun hf => ?_)
  · refine r_aload_n h d_P_put_18 0 rfl rfl ?_
    refine r_getR h fd_YC_0_12 cf_P fl_P_92 d_P_put_19 ?_
    refine r_iload_n h d_P_put_22 1 rfl rfl ?_
    obtain ⟨r23, e23, hf⟩ := q_bind hf
    refine r_callV (As := [.int x1]) (rest := []) h sh_YC_74 lk_P_389 vk_P_389 d_P_put_23 (by decide) rfl rfl (Nat.le_of_ble_eq_true rfl) (m_Sheets_isNothing e23) ?_
    refine r_bif_eq h d_P_put_26 hf (fun hf => ?_) (fun hf => ?_)
    · refine r_iload_n h d_P_put_35 2 rfl rfl ?_
      refine r_aload_n h d_P_put_36 0 rfl rfl ?_
      refine r_getR h fd_YC_0_12 cf_P fl_P_92 d_P_put_37 ?_
      refine r_getR h fd_YC_74_2 cf_Sheets fl_P_392 d_P_put_40 ?_
      refine r_iload_n h d_P_put_43 1 rfl rfl ?_
      refine r_ialdv (v := (σ.1 77 (Int32.toNatClampNeg x1))) h sh_YC_77 d_P_put_44 hf rfl (fun hf => ?_)
      obtain ⟨r45, e45, hf⟩ := q_bind hf
      refine r_callS (As := [.int x2, .int (σ.1 77 (Int32.toNatClampNeg x1))]) (rest := []) h lk_P_96 sk_P_96 d_P_put_45 (by decide) rfl rfl (Nat.le_of_ble_eq_true rfl) (m_P_isBelow e45) ?_
      refine r_bif_ne h d_P_put_48 hf (fun hf => ?_) (fun hf => ?_)
      · refine r_aload_n h d_P_put_57 0 rfl rfl ?_
        refine r_getR h fd_YC_0_12 cf_P fl_P_92 d_P_put_58 ?_
        refine r_iload_n h d_P_put_61 1 rfl rfl ?_
        refine r_iload_n h d_P_put_62 2 rfl rfl ?_
        refine r_iload_n h d_P_put_63 3 rfl rfl ?_
        obtain ⟨q64, e64, hf⟩ := q_bind hf
        refine r_callV (As := [.int x1, .int x2, .int x3]) (rest := []) h sh_YC_74 lk_P_395 vk_P_395 d_P_put_64 (by decide) rfl rfl (Nat.le_of_ble_eq_true rfl) (m_Sheets_write e64) ?_
        refine r_iconst h d_P_put_67 ki_1 ?_
        exact r_ireturn h d_P_put_68.1 (q_p1 hf) (q_p2 hf)
      · refine r_aload_n h d_P_put_51 0 rfl rfl ?_
        refine r_iconst h d_P_put_52 ki_3 ?_
        obtain ⟨q53, e53, hf⟩ := q_bind hf
        refine r_callV (As := [.int (3 : Int32)]) (rest := []) h sh_YC_0 lk_P_163 vk_P_163 d_P_put_53 (by decide) rfl rfl (Nat.le_of_ble_eq_true rfl) (m_P_faulted e53) ?_
        exact r_ireturn h d_P_put_56.1 (q_p1 hf) (q_p2 hf)
    · refine r_aload_n h d_P_put_29 0 rfl rfl ?_
      refine r_iconst h d_P_put_30 ki_1 ?_
      obtain ⟨q31, e31, hf⟩ := q_bind hf
      refine r_callV (As := [.int (1 : Int32)]) (rest := []) h sh_YC_0 lk_P_163 vk_P_163 d_P_put_31 (by decide) rfl rfl (Nat.le_of_ble_eq_true rfl) (m_P_faulted e31) ?_
      exact r_ireturn h d_P_put_34.1 (q_p1 hf) (q_p2 hf)
  · refine r_iconst h d_P_put_16 ki_m1 ?_
    exact r_ireturn h d_P_put_17.1 (q_p1 hf) (q_p2 hf)

theorem d_P_cell_0 : decode c_P_cell 0 = .ok (.aload_n 0, 1) ∧ 0 + 1 = 1 := by decide +kernel
theorem d_P_cell_1 : decode c_P_cell 1 = .ok (.iconst 0, 1) ∧ 1 + 1 = 2 := by decide +kernel
theorem d_P_cell_2 : decode c_P_cell 2 = .ok (.putfield 152, 3) ∧ 2 + 3 = 5 := by decide +kernel
theorem d_P_cell_5 : decode c_P_cell 5 = .ok (.aload_n 0, 1) ∧ 5 + 1 = 6 := by decide +kernel
theorem d_P_cell_6 : decode c_P_cell 6 = .ok (.getfield 92, 3) ∧ 6 + 3 = 9 := by decide +kernel
theorem d_P_cell_9 : decode c_P_cell 9 = .ok (.iload_n 1, 1) ∧ 9 + 1 = 10 := by decide +kernel
theorem d_P_cell_10 : decode c_P_cell 10 = .ok (.invokevirtual 156, 3) ∧ 10 + 3 = 13 := by decide +kernel
theorem d_P_cell_13 : decode c_P_cell 13 = .ok (.ifCond .eq 11, 3) ∧ 13 + 3 = 16 ∧ ((13 : Nat) : Int) + 11 = ((24 : Nat) : Int) := by decide +kernel
theorem d_P_cell_16 : decode c_P_cell 16 = .ok (.iload_n 3, 1) ∧ 16 + 1 = 17 := by decide +kernel
theorem d_P_cell_17 : decode c_P_cell 17 = .ok (.iconst 3, 1) ∧ 17 + 1 = 18 := by decide +kernel
theorem d_P_cell_18 : decode c_P_cell 18 = .ok (.invokestatic 96, 3) ∧ 18 + 3 = 21 := by decide +kernel
theorem d_P_cell_21 : decode c_P_cell 21 = .ok (.ifCond .ne 7, 3) ∧ 21 + 3 = 24 ∧ ((21 : Nat) : Int) + 7 = ((28 : Nat) : Int) := by decide +kernel
theorem d_P_cell_24 : decode c_P_cell 24 = .ok (.ldc2_w 292, 3) ∧ 24 + 3 = 27 := by decide +kernel
theorem d_P_cell_27 : decode c_P_cell 27 = .ok (.lreturn, 1) ∧ 27 + 1 = 28 := by decide +kernel
theorem d_P_cell_28 : decode c_P_cell 28 = .ok (.aload_n 0, 1) ∧ 28 + 1 = 29 := by decide +kernel
theorem d_P_cell_29 : decode c_P_cell 29 = .ok (.aload_n 0, 1) ∧ 29 + 1 = 30 := by decide +kernel
theorem d_P_cell_30 : decode c_P_cell 30 = .ok (.getfield 92, 3) ∧ 30 + 3 = 33 := by decide +kernel
theorem d_P_cell_33 : decode c_P_cell 33 = .ok (.iload_n 1, 1) ∧ 33 + 1 = 34 := by decide +kernel
theorem d_P_cell_34 : decode c_P_cell 34 = .ok (.iload_n 3, 1) ∧ 34 + 1 = 35 := by decide +kernel
theorem d_P_cell_35 : decode c_P_cell 35 = .ok (.iload_n 2, 1) ∧ 35 + 1 = 36 := by decide +kernel
theorem d_P_cell_36 : decode c_P_cell 36 = .ok (.lconst 1, 1) ∧ 36 + 1 = 37 := by decide +kernel
theorem d_P_cell_37 : decode c_P_cell 37 = .ok (.invokevirtual 159, 3) ∧ 37 + 3 = 40 := by decide +kernel
theorem d_P_cell_40 : decode c_P_cell 40 = .ok (.putfield 152, 3) ∧ 40 + 3 = 43 := by decide +kernel
theorem d_P_cell_43 : decode c_P_cell 43 = .ok (.aload_n 0, 1) ∧ 43 + 1 = 44 := by decide +kernel
theorem d_P_cell_44 : decode c_P_cell 44 = .ok (.getfield 152, 3) ∧ 44 + 3 = 47 := by decide +kernel
theorem d_P_cell_47 : decode c_P_cell 47 = .ok (.ifCond .ne 16, 3) ∧ 47 + 3 = 50 ∧ ((47 : Nat) : Int) + 16 = ((63 : Nat) : Int) := by decide +kernel
theorem d_P_cell_50 : decode c_P_cell 50 = .ok (.aload_n 0, 1) ∧ 50 + 1 = 51 := by decide +kernel
theorem d_P_cell_51 : decode c_P_cell 51 = .ok (.getfield 92, 3) ∧ 51 + 3 = 54 := by decide +kernel
theorem d_P_cell_54 : decode c_P_cell 54 = .ok (.iload_n 1, 1) ∧ 54 + 1 = 55 := by decide +kernel
theorem d_P_cell_55 : decode c_P_cell 55 = .ok (.iload_n 2, 1) ∧ 55 + 1 = 56 := by decide +kernel
theorem d_P_cell_56 : decode c_P_cell 56 = .ok (.invokevirtual 172, 3) ∧ 56 + 3 = 59 := by decide +kernel
theorem d_P_cell_59 : decode c_P_cell 59 = .ok (.i2l, 1) ∧ 59 + 1 = 60 := by decide +kernel
theorem d_P_cell_60 : decode c_P_cell 60 = .ok (.goto 6, 3) ∧ (60 : Int) + 6 = (66 : Int) := by decide +kernel
theorem d_P_cell_63 : decode c_P_cell 63 = .ok (.ldc2_w 292, 3) ∧ 63 + 3 = 66 := by decide +kernel
theorem d_P_cell_66 : decode c_P_cell 66 = .ok (.lreturn, 1) ∧ 66 + 1 = 67 := by decide +kernel
set_option maxHeartbeats 4000000 in
theorem m_P_cell {Z : Sy} {σ : St} {res : (Int64 × St)} {x1 : Int32} {x2 : Int32} {x3 : Int32} (hf : P_cell x1 x2 x3 σ = some res) : Ct YC Z y_P_cell c_P_cell 4 (some .long) 3 [.ref (ya Z 0), .int x1, .int x2, .int x3] σ (some (.long res.1)) res.2 := by
  refine Ct.of pn_P (Nat.le_of_ble_eq_true rfl) rfl (fun Γ h => ?_)
  have h : IsG YC Z R_P c_P_cell 4 3 (some .long) (some (.long res.1)) res.2 Γ := h
  unfold P_cell at hf
  refine r_aload_n h d_P_cell_0 0 rfl rfl ?_
  refine r_iconst h d_P_cell_1 ki_0 ?_
  refine r_putI h fd_YC_0_13 cf_P fl_P_152 ⟨rfl, rfl⟩ d_P_cell_2 ?_
  refine r_aload_n h d_P_cell_5 0 rfl rfl ?_
  refine r_getR h fd_YC_0_12 cf_P fl_P_92 d_P_cell_6 ?_
  refine r_iload_n h d_P_cell_9 1 rfl rfl ?_
  obtain ⟨r10, e10, hf⟩ := q_bind hf
  refine r_callV (As := [.int x1]) (rest := []) h sh_YC_74 lk_P_156 vk_P_156 d_P_cell_10 (by decide) rfl rfl (Nat.le_of_ble_eq_true rfl) (m_Sheets_has e10) ?_
  refine r_bif_eq h d_P_cell_13 hf (fun hf => ?_) (fun hf => ?_)
  · refine r_ldc2 h d_P_cell_24 tm_869 ?_
    exact r_lreturn h d_P_cell_27.1 (q_p1 hf) (q_p2 hf)
  · refine r_iload_n h d_P_cell_16 3 rfl rfl ?_
    refine r_iconst h d_P_cell_17 ki_3 ?_
    obtain ⟨r18, e18, hf⟩ := q_bind hf
    refine r_callS (As := [.int x3, .int (3 : Int32)]) (rest := []) h lk_P_96 sk_P_96 d_P_cell_18 (by decide) rfl rfl (Nat.le_of_ble_eq_true rfl) (m_P_isBelow e18) ?_
    refine r_bif_ne h d_P_cell_21 hf (fun hf => ?_) (fun hf => ?_)
    · refine r_aload_n h d_P_cell_28 0 rfl rfl ?_
      refine r_aload_n h d_P_cell_29 0 rfl rfl ?_
      refine r_getR h fd_YC_0_12 cf_P fl_P_92 d_P_cell_30 ?_
      refine r_iload_n h d_P_cell_33 1 rfl rfl ?_
      refine r_iload_n h d_P_cell_34 3 rfl rfl ?_
      refine r_iload_n h d_P_cell_35 2 rfl rfl ?_
      refine r_lconst h d_P_cell_36 kl_1 ?_
      obtain ⟨r37, e37, hf⟩ := q_bind hf
      refine r_callV (As := [.int x1, .int x3, .int x2, .long (1 : Int64)]) (rest := [.ref (ya Z 0)]) h sh_YC_74 lk_P_159 vk_P_159 d_P_cell_37 (by decide) rfl rfl (Nat.le_of_ble_eq_true rfl) (m_Sheets_takingFault e37) ?_
      refine r_putI h fd_YC_0_13 cf_P fl_P_152 ⟨rfl, rfl⟩ d_P_cell_40 ?_
      refine r_aload_n h d_P_cell_43 0 rfl rfl ?_
      refine r_getIv (v := r37) h fd_YC_0_13 cf_P fl_P_152 d_P_cell_44 rfl ?_
      refine r_if_ne h d_P_cell_47 hf (fun hf => ?_) (fun hf => ?_)
      · refine r_ldc2 h d_P_cell_63 tm_869 ?_
        exact r_lreturn h d_P_cell_66.1 (q_p1 hf) (q_p2 hf)
      · refine r_aload_n h d_P_cell_50 0 rfl rfl ?_
        refine r_getR h fd_YC_0_12 cf_P fl_P_92 d_P_cell_51 ?_
        refine r_iload_n h d_P_cell_54 1 rfl rfl ?_
        refine r_iload_n h d_P_cell_55 2 rfl rfl ?_
        obtain ⟨r56, e56, hf⟩ := q_bind hf
        refine r_callV (As := [.int x1, .int x2]) (rest := []) h sh_YC_74 lk_P_172 vk_P_172 d_P_cell_56 (by decide) rfl rfl (Nat.le_of_ble_eq_true rfl) (m_Sheets_valueAt e56) ?_
        refine r_i2l h d_P_cell_59 ?_
        refine r_goto h d_P_cell_60 ?_
        exact r_lreturn h d_P_cell_66.1 (q_p1 hf) (q_p2 hf)
    · refine r_ldc2 h d_P_cell_24 tm_869 ?_
      exact r_lreturn h d_P_cell_27.1 (q_p1 hf) (q_p2 hf)

theorem d_Sheets_carry_0 : decode c_Sheets_carry 0 = .ok (.aload_n 0, 1) ∧ 0 + 1 = 1 := by decide +kernel
theorem d_Sheets_carry_1 : decode c_Sheets_carry 1 = .ok (.getfield 11, 3) ∧ 1 + 3 = 4 := by decide +kernel
theorem d_Sheets_carry_4 : decode c_Sheets_carry 4 = .ok (.iload_n 1, 1) ∧ 4 + 1 = 5 := by decide +kernel
theorem d_Sheets_carry_5 : decode c_Sheets_carry 5 = .ok (.bipush 60, 2) ∧ 5 + 2 = 7 := by decide +kernel
theorem d_Sheets_carry_7 : decode c_Sheets_carry 7 = .ok (.imul, 1) ∧ 7 + 1 = 8 := by decide +kernel
theorem d_Sheets_carry_8 : decode c_Sheets_carry 8 = .ok (.iload_n 2, 1) ∧ 8 + 1 = 9 := by decide +kernel
theorem d_Sheets_carry_9 : decode c_Sheets_carry 9 = .ok (.iadd, 1) ∧ 9 + 1 = 10 := by decide +kernel
theorem d_Sheets_carry_10 : decode c_Sheets_carry 10 = .ok (.aload_n 0, 1) ∧ 10 + 1 = 11 := by decide +kernel
theorem d_Sheets_carry_11 : decode c_Sheets_carry 11 = .ok (.getfield 11, 3) ∧ 11 + 3 = 14 := by decide +kernel
theorem d_Sheets_carry_14 : decode c_Sheets_carry 14 = .ok (.iload_n 3, 1) ∧ 14 + 1 = 15 := by decide +kernel
theorem d_Sheets_carry_15 : decode c_Sheets_carry 15 = .ok (.bipush 60, 2) ∧ 15 + 2 = 17 := by decide +kernel
theorem d_Sheets_carry_17 : decode c_Sheets_carry 17 = .ok (.imul, 1) ∧ 17 + 1 = 18 := by decide +kernel
theorem d_Sheets_carry_18 : decode c_Sheets_carry 18 = .ok (.iload 4, 2) ∧ 18 + 2 = 20 := by decide +kernel
theorem d_Sheets_carry_20 : decode c_Sheets_carry 20 = .ok (.iadd, 1) ∧ 20 + 1 = 21 := by decide +kernel
theorem d_Sheets_carry_21 : decode c_Sheets_carry 21 = .ok (.iload 5, 2) ∧ 21 + 2 = 23 := by decide +kernel
theorem d_Sheets_carry_23 : decode c_Sheets_carry 23 = .ok (.invokestatic 37, 3) ∧ 23 + 3 = 26 := by decide +kernel
theorem d_Sheets_carry_26 : decode c_Sheets_carry 26 = .ok (.return_, 1) ∧ 26 + 1 = 27 := by decide +kernel
set_option maxHeartbeats 4000000 in
theorem m_Sheets_carry {Z : Sy} {σ : St} {res : St} {x1 : Int32} {x2 : Int32} {x3 : Int32} {x4 : Int32} {x5 : Int32} (hf : Sheets_carry x1 x2 x3 x4 x5 σ = some res) : Ct YC Z y_Sheets_carry c_Sheets_carry 6 none 1 [.ref (ya Z 74), .int x1, .int x2, .int x3, .int x4, .int x5] σ none res := by
  refine Ct.of pn_Sheets (Nat.le_of_ble_eq_true rfl) rfl (fun Γ h => ?_)
  have h : IsG YC Z R_Sheets c_Sheets_carry 6 1 none none res Γ := h
  unfold Sheets_carry at hf
  refine r_aload_n h d_Sheets_carry_0 0 rfl rfl ?_
  refine r_getR h fd_YC_74_0 cf_Sheets fl_Sheets_11 d_Sheets_carry_1 ?_
  refine r_iload_n h d_Sheets_carry_4 1 rfl rfl ?_
  refine r_bipush h d_Sheets_carry_5 kb_60 ?_
  refine r_imul h d_Sheets_carry_7 ?_
  refine r_iload_n h d_Sheets_carry_8 2 rfl rfl ?_
  refine r_iadd h d_Sheets_carry_9 ?_
  refine r_aload_n h d_Sheets_carry_10 0 rfl rfl ?_
  refine r_getR h fd_YC_74_0 cf_Sheets fl_Sheets_11 d_Sheets_carry_11 ?_
  refine r_iload_n h d_Sheets_carry_14 3 rfl rfl ?_
  refine r_bipush h d_Sheets_carry_15 kb_60 ?_
  refine r_imul h d_Sheets_carry_17 ?_
  refine r_iload h d_Sheets_carry_18 4 rfl ?_
  refine r_iadd h d_Sheets_carry_20 ?_
  refine r_iload h d_Sheets_carry_21 5 rfl ?_
  refine r_acopy h sh_YC_75 sh_YC_75 ⟨tm_1103, tm_954, tm_953, tm_93⟩ (by decide) rfl d_Sheets_carry_23 hf (fun hf => ?_)
  exact r_vreturn h d_Sheets_carry_26.1 (Option.some.inj hf)

theorem d_P_copy_0 : decode c_P_copy 0 = .ok (.aload_n 0, 1) ∧ 0 + 1 = 1 := by decide +kernel
theorem d_P_copy_1 : decode c_P_copy 1 = .ok (.iconst 0, 1) ∧ 1 + 1 = 2 := by decide +kernel
theorem d_P_copy_2 : decode c_P_copy 2 = .ok (.putfield 152, 3) ∧ 2 + 3 = 5 := by decide +kernel
theorem d_P_copy_5 : decode c_P_copy 5 = .ok (.aload_n 0, 1) ∧ 5 + 1 = 6 := by decide +kernel
theorem d_P_copy_6 : decode c_P_copy 6 = .ok (.getfield 92, 3) ∧ 6 + 3 = 9 := by decide +kernel
theorem d_P_copy_9 : decode c_P_copy 9 = .ok (.iload_n 1, 1) ∧ 9 + 1 = 10 := by decide +kernel
theorem d_P_copy_10 : decode c_P_copy 10 = .ok (.invokevirtual 156, 3) ∧ 10 + 3 = 13 := by decide +kernel
theorem d_P_copy_13 : decode c_P_copy 13 = .ok (.ifCond .eq 14, 3) ∧ 13 + 3 = 16 ∧ ((13 : Nat) : Int) + 14 = ((27 : Nat) : Int) := by decide +kernel
theorem d_P_copy_16 : decode c_P_copy 16 = .ok (.aload_n 0, 1) ∧ 16 + 1 = 17 := by decide +kernel
theorem d_P_copy_17 : decode c_P_copy 17 = .ok (.getfield 92, 3) ∧ 17 + 3 = 20 := by decide +kernel
theorem d_P_copy_20 : decode c_P_copy 20 = .ok (.iload_n 3, 1) ∧ 20 + 1 = 21 := by decide +kernel
theorem d_P_copy_21 : decode c_P_copy 21 = .ok (.invokevirtual 156, 3) ∧ 21 + 3 = 24 := by decide +kernel
theorem d_P_copy_24 : decode c_P_copy 24 = .ok (.ifCond .ne 5, 3) ∧ 24 + 3 = 27 ∧ ((24 : Nat) : Int) + 5 = ((29 : Nat) : Int) := by decide +kernel
theorem d_P_copy_27 : decode c_P_copy 27 = .ok (.iconst (-1), 1) ∧ 27 + 1 = 28 := by decide +kernel
theorem d_P_copy_28 : decode c_P_copy 28 = .ok (.ireturn, 1) ∧ 28 + 1 = 29 := by decide +kernel
theorem d_P_copy_29 : decode c_P_copy 29 = .ok (.aload_n 0, 1) ∧ 29 + 1 = 30 := by decide +kernel
theorem d_P_copy_30 : decode c_P_copy 30 = .ok (.getfield 92, 3) ∧ 30 + 3 = 33 := by decide +kernel
theorem d_P_copy_33 : decode c_P_copy 33 = .ok (.iload_n 1, 1) ∧ 33 + 1 = 34 := by decide +kernel
theorem d_P_copy_34 : decode c_P_copy 34 = .ok (.invokevirtual 389, 3) ∧ 34 + 3 = 37 := by decide +kernel
theorem d_P_copy_37 : decode c_P_copy 37 = .ok (.ifCond .ne 14, 3) ∧ 37 + 3 = 40 ∧ ((37 : Nat) : Int) + 14 = ((51 : Nat) : Int) := by decide +kernel
theorem d_P_copy_40 : decode c_P_copy 40 = .ok (.aload_n 0, 1) ∧ 40 + 1 = 41 := by decide +kernel
theorem d_P_copy_41 : decode c_P_copy 41 = .ok (.getfield 92, 3) ∧ 41 + 3 = 44 := by decide +kernel
theorem d_P_copy_44 : decode c_P_copy 44 = .ok (.iload_n 3, 1) ∧ 44 + 1 = 45 := by decide +kernel
theorem d_P_copy_45 : decode c_P_copy 45 = .ok (.invokevirtual 389, 3) ∧ 45 + 3 = 48 := by decide +kernel
theorem d_P_copy_48 : decode c_P_copy 48 = .ok (.ifCond .eq 9, 3) ∧ 48 + 3 = 51 ∧ ((48 : Nat) : Int) + 9 = ((57 : Nat) : Int) := by decide +kernel
theorem d_P_copy_51 : decode c_P_copy 51 = .ok (.aload_n 0, 1) ∧ 51 + 1 = 52 := by decide +kernel
theorem d_P_copy_52 : decode c_P_copy 52 = .ok (.iconst 1, 1) ∧ 52 + 1 = 53 := by decide +kernel
theorem d_P_copy_53 : decode c_P_copy 53 = .ok (.invokevirtual 163, 3) ∧ 53 + 3 = 56 := by decide +kernel
theorem d_P_copy_56 : decode c_P_copy 56 = .ok (.ireturn, 1) ∧ 56 + 1 = 57 := by decide +kernel
theorem d_P_copy_57 : decode c_P_copy 57 = .ok (.aload_n 0, 1) ∧ 57 + 1 = 58 := by decide +kernel
theorem d_P_copy_58 : decode c_P_copy 58 = .ok (.getfield 92, 3) ∧ 58 + 3 = 61 := by decide +kernel
theorem d_P_copy_61 : decode c_P_copy 61 = .ok (.getfield 398, 3) ∧ 61 + 3 = 64 := by decide +kernel
theorem d_P_copy_64 : decode c_P_copy 64 = .ok (.iload_n 1, 1) ∧ 64 + 1 = 65 := by decide +kernel
theorem d_P_copy_65 : decode c_P_copy 65 = .ok (.iaload, 1) ∧ 65 + 1 = 66 := by decide +kernel
theorem d_P_copy_66 : decode c_P_copy 66 = .ok (.aload_n 0, 1) ∧ 66 + 1 = 67 := by decide +kernel
theorem d_P_copy_67 : decode c_P_copy 67 = .ok (.getfield 92, 3) ∧ 67 + 3 = 70 := by decide +kernel
theorem d_P_copy_70 : decode c_P_copy 70 = .ok (.getfield 398, 3) ∧ 70 + 3 = 73 := by decide +kernel
theorem d_P_copy_73 : decode c_P_copy 73 = .ok (.iload_n 3, 1) ∧ 73 + 1 = 74 := by decide +kernel
theorem d_P_copy_74 : decode c_P_copy 74 = .ok (.iaload, 1) ∧ 74 + 1 = 75 := by decide +kernel
theorem d_P_copy_75 : decode c_P_copy 75 = .ok (.if_icmp .eq 9, 3) ∧ 75 + 3 = 78 ∧ ((75 : Nat) : Int) + 9 = ((84 : Nat) : Int) := by decide +kernel
theorem d_P_copy_78 : decode c_P_copy 78 = .ok (.aload_n 0, 1) ∧ 78 + 1 = 79 := by decide +kernel
theorem d_P_copy_79 : decode c_P_copy 79 = .ok (.iconst 2, 1) ∧ 79 + 1 = 80 := by decide +kernel
theorem d_P_copy_80 : decode c_P_copy 80 = .ok (.invokevirtual 163, 3) ∧ 80 + 3 = 83 := by decide +kernel
theorem d_P_copy_83 : decode c_P_copy 83 = .ok (.ireturn, 1) ∧ 83 + 1 = 84 := by decide +kernel
theorem d_P_copy_84 : decode c_P_copy 84 = .ok (.aload_n 0, 1) ∧ 84 + 1 = 85 := by decide +kernel
theorem d_P_copy_85 : decode c_P_copy 85 = .ok (.getfield 92, 3) ∧ 85 + 3 = 88 := by decide +kernel
theorem d_P_copy_88 : decode c_P_copy 88 = .ok (.iload_n 1, 1) ∧ 88 + 1 = 89 := by decide +kernel
theorem d_P_copy_89 : decode c_P_copy 89 = .ok (.iload_n 2, 1) ∧ 89 + 1 = 90 := by decide +kernel
theorem d_P_copy_90 : decode c_P_copy 90 = .ok (.iload 5, 2) ∧ 90 + 2 = 92 := by decide +kernel
theorem d_P_copy_92 : decode c_P_copy 92 = .ok (.i2l, 1) ∧ 92 + 1 = 93 := by decide +kernel
theorem d_P_copy_93 : decode c_P_copy 93 = .ok (.invokevirtual 401, 3) ∧ 93 + 3 = 96 := by decide +kernel
theorem d_P_copy_96 : decode c_P_copy 96 = .ok (.ifCond .eq 19, 3) ∧ 96 + 3 = 99 ∧ ((96 : Nat) : Int) + 19 = ((115 : Nat) : Int) := by decide +kernel
theorem d_P_copy_99 : decode c_P_copy 99 = .ok (.aload_n 0, 1) ∧ 99 + 1 = 100 := by decide +kernel
theorem d_P_copy_100 : decode c_P_copy 100 = .ok (.getfield 92, 3) ∧ 100 + 3 = 103 := by decide +kernel
theorem d_P_copy_103 : decode c_P_copy 103 = .ok (.iload_n 3, 1) ∧ 103 + 1 = 104 := by decide +kernel
theorem d_P_copy_104 : decode c_P_copy 104 = .ok (.iload 4, 2) ∧ 104 + 2 = 106 := by decide +kernel
theorem d_P_copy_106 : decode c_P_copy 106 = .ok (.iload 5, 2) ∧ 106 + 2 = 108 := by decide +kernel
theorem d_P_copy_108 : decode c_P_copy 108 = .ok (.i2l, 1) ∧ 108 + 1 = 109 := by decide +kernel
theorem d_P_copy_109 : decode c_P_copy 109 = .ok (.invokevirtual 401, 3) ∧ 109 + 3 = 112 := by decide +kernel
theorem d_P_copy_112 : decode c_P_copy 112 = .ok (.ifCond .ne 9, 3) ∧ 112 + 3 = 115 ∧ ((112 : Nat) : Int) + 9 = ((121 : Nat) : Int) := by decide +kernel
theorem d_P_copy_115 : decode c_P_copy 115 = .ok (.aload_n 0, 1) ∧ 115 + 1 = 116 := by decide +kernel
theorem d_P_copy_116 : decode c_P_copy 116 = .ok (.iconst 3, 1) ∧ 116 + 1 = 117 := by decide +kernel
theorem d_P_copy_117 : decode c_P_copy 117 = .ok (.invokevirtual 163, 3) ∧ 117 + 3 = 120 := by decide +kernel
theorem d_P_copy_120 : decode c_P_copy 120 = .ok (.ireturn, 1) ∧ 120 + 1 = 121 := by decide +kernel
theorem d_P_copy_121 : decode c_P_copy 121 = .ok (.aload_n 0, 1) ∧ 121 + 1 = 122 := by decide +kernel
theorem d_P_copy_122 : decode c_P_copy 122 = .ok (.getfield 92, 3) ∧ 122 + 3 = 125 := by decide +kernel
theorem d_P_copy_125 : decode c_P_copy 125 = .ok (.iload_n 1, 1) ∧ 125 + 1 = 126 := by decide +kernel
theorem d_P_copy_126 : decode c_P_copy 126 = .ok (.iload_n 2, 1) ∧ 126 + 1 = 127 := by decide +kernel
theorem d_P_copy_127 : decode c_P_copy 127 = .ok (.iload_n 3, 1) ∧ 127 + 1 = 128 := by decide +kernel
theorem d_P_copy_128 : decode c_P_copy 128 = .ok (.iload 4, 2) ∧ 128 + 2 = 130 := by decide +kernel
theorem d_P_copy_130 : decode c_P_copy 130 = .ok (.iload 5, 2) ∧ 130 + 2 = 132 := by decide +kernel
theorem d_P_copy_132 : decode c_P_copy 132 = .ok (.invokevirtual 405, 3) ∧ 132 + 3 = 135 := by decide +kernel
theorem d_P_copy_135 : decode c_P_copy 135 = .ok (.iload 5, 2) ∧ 135 + 2 = 137 := by decide +kernel
theorem d_P_copy_137 : decode c_P_copy 137 = .ok (.ireturn, 1) ∧ 137 + 1 = 138 := by decide +kernel
set_option maxHeartbeats 4000000 in
theorem m_P_copy {Z : Sy} {σ : St} {res : (Int32 × St)} {x1 : Int32} {x2 : Int32} {x3 : Int32} {x4 : Int32} {x5 : Int32} (hf : P_copy x1 x2 x3 x4 x5 σ = some res) : Ct YC Z y_P_copy c_P_copy 6 (some .int) 3 [.ref (ya Z 0), .int x1, .int x2, .int x3, .int x4, .int x5] σ (some (.int res.1)) res.2 := by
  refine Ct.of pn_P (Nat.le_of_ble_eq_true rfl) rfl (fun Γ h => ?_)
  have h : IsG YC Z R_P c_P_copy 6 3 (some .int) (some (.int res.1)) res.2 Γ := h
  unfold P_copy at hf
  refine r_aload_n h d_P_copy_0 0 rfl rfl ?_
  refine r_iconst h d_P_copy_1 ki_0 ?_
  refine r_putI h fd_YC_0_13 cf_P fl_P_152 ⟨rfl, rfl⟩ d_P_copy_2 ?_
  refine r_aload_n h d_P_copy_5 0 rfl rfl ?_
  refine r_getR h fd_YC_0_12 cf_P fl_P_92 d_P_copy_6 ?_
  refine r_iload_n h d_P_copy_9 1 rfl rfl ?_
  obtain ⟨r10, e10, hf⟩ := q_bind hf
  refine r_callV (As := [.int x1]) (rest := []) h sh_YC_74 lk_P_156 vk_P_156 d_P_copy_10 (by decide) rfl rfl (Nat.le_of_ble_eq_true rfl) (m_Sheets_has e10) ?_
  refine r_bif_eq h d_P_copy_13 hf (fun hf => ?_) (fun hf => ?_)
  · refine r_iconst h d_P_copy_27 ki_m1 ?_
    exact r_ireturn h d_P_copy_28.1 (q_p1 hf) (q_p2 hf)
  · refine r_aload_n h d_P_copy_16 0 rfl rfl ?_
    refine r_getR h fd_YC_0_12 cf_P fl_P_92 d_P_copy_17 ?_
    refine r_iload_n h d_P_copy_20 3 rfl rfl ?_
    obtain ⟨r21, e21, hf⟩ := q_bind hf
    refine r_callV (As := [.int x3]) (rest := []) h sh_YC_74 lk_P_156 vk_P_156 d_P_copy_21 (by decide) rfl rfl (Nat.le_of_ble_eq_true rfl) (m_Sheets_has e21) ?_
    refine r_bif_ne h d_P_copy_24 hf (fun hf => ?_) (fun hf => ?_)
    · refine r_aload_n h d_P_copy_29 0 rfl rfl ?_
      refine r_getR h fd_YC_0_12 cf_P fl_P_92 d_P_copy_30 ?_
      refine r_iload_n h d_P_copy_33 1 rfl rfl ?_
      obtain ⟨r34, e34, hf⟩ := q_bind hf
      refine r_callV (As := [.int x1]) (rest := []) h sh_YC_74 lk_P_389 vk_P_389 d_P_copy_34 (by decide) rfl rfl (Nat.le_of_ble_eq_true rfl) (m_Sheets_isNothing e34) ?_
      refine r_bif_ne h d_P_copy_37 hf (fun hf => ?_) (fun hf => ?_)
      · refine r_aload_n h d_P_copy_51 0 rfl rfl ?_
        refine r_iconst h d_P_copy_52 ki_1 ?_
        obtain ⟨q53, e53, hf⟩ := q_bind hf
        refine r_callV (As := [.int (1 : Int32)]) (rest := []) h sh_YC_0 lk_P_163 vk_P_163 d_P_copy_53 (by decide) rfl rfl (Nat.le_of_ble_eq_true rfl) (m_P_faulted e53) ?_
        exact r_ireturn h d_P_copy_56.1 (q_p1 hf) (q_p2 hf)
      · refine r_aload_n h d_P_copy_40 0 rfl rfl ?_
        refine r_getR h fd_YC_0_12 cf_P fl_P_92 d_P_copy_41 ?_
        refine r_iload_n h d_P_copy_44 3 rfl rfl ?_
        obtain ⟨r45, e45, hf⟩ := q_bind hf
        refine r_callV (As := [.int x3]) (rest := []) h sh_YC_74 lk_P_389 vk_P_389 d_P_copy_45 (by decide) rfl rfl (Nat.le_of_ble_eq_true rfl) (m_Sheets_isNothing e45) ?_
        refine r_bif_eq h d_P_copy_48 hf (fun hf => ?_) (fun hf => ?_)
        · refine r_aload_n h d_P_copy_57 0 rfl rfl ?_
          refine r_getR h fd_YC_0_12 cf_P fl_P_92 d_P_copy_58 ?_
          refine r_getR h fd_YC_74_1 cf_Sheets fl_P_398 d_P_copy_61 ?_
          refine r_iload_n h d_P_copy_64 1 rfl rfl ?_
          refine r_ialdv (v := (σ.1 76 (Int32.toNatClampNeg x1))) h sh_YC_76 d_P_copy_65 hf rfl (fun hf => ?_)
          refine r_aload_n h d_P_copy_66 0 rfl rfl ?_
          refine r_getR h fd_YC_0_12 cf_P fl_P_92 d_P_copy_67 ?_
          refine r_getR h fd_YC_74_1 cf_Sheets fl_P_398 d_P_copy_70 ?_
          refine r_iload_n h d_P_copy_73 3 rfl rfl ?_
          refine r_ialdv (v := (σ.1 76 (Int32.toNatClampNeg x3))) h sh_YC_76 d_P_copy_74 hf rfl (fun hf => ?_)
          refine r_icmp_eq h d_P_copy_75 hf (fun hf => ?_) (fun hf => ?_)
          · refine r_aload_n h d_P_copy_84 0 rfl rfl ?_
            refine r_getR h fd_YC_0_12 cf_P fl_P_92 d_P_copy_85 ?_
            refine r_iload_n h d_P_copy_88 1 rfl rfl ?_
            refine r_iload_n h d_P_copy_89 2 rfl rfl ?_
            refine r_iload h d_P_copy_90 5 rfl ?_
            refine r_i2l h d_P_copy_92 ?_
            obtain ⟨r93, e93, hf⟩ := q_bind hf
            refine r_callV (As := [.int x1, .int x2, .long (Int32.toInt64 x5)]) (rest := []) h sh_YC_74 lk_P_401 vk_P_401 d_P_copy_93 (by decide) rfl rfl (Nat.le_of_ble_eq_true rfl) (m_Sheets_hasCells e93) ?_
            refine r_bif_eq h d_P_copy_96 hf (fun hf => ?_) (fun hf => ?_)
            · refine r_aload_n h d_P_copy_115 0 rfl rfl ?_
              refine r_iconst h d_P_copy_116 ki_3 ?_
              obtain ⟨q117, e117, hf⟩ := q_bind hf
              refine r_callV (As := [.int (3 : Int32)]) (rest := []) h sh_YC_0 lk_P_163 vk_P_163 d_P_copy_117 (by decide) rfl rfl (Nat.le_of_ble_eq_true rfl) (m_P_faulted e117) ?_
              exact r_ireturn h d_P_copy_120.1 (q_p1 hf) (q_p2 hf)
            · refine r_aload_n h d_P_copy_99 0 rfl rfl ?_
              refine r_getR h fd_YC_0_12 cf_P fl_P_92 d_P_copy_100 ?_
              refine r_iload_n h d_P_copy_103 3 rfl rfl ?_
              refine r_iload h d_P_copy_104 4 rfl ?_
              refine r_iload h d_P_copy_106 5 rfl ?_
              refine r_i2l h d_P_copy_108 ?_
              obtain ⟨r109, e109, hf⟩ := q_bind hf
              refine r_callV (As := [.int x3, .int x4, .long (Int32.toInt64 x5)]) (rest := []) h sh_YC_74 lk_P_401 vk_P_401 d_P_copy_109 (by decide) rfl rfl (Nat.le_of_ble_eq_true rfl) (m_Sheets_hasCells e109) ?_
              refine r_bif_ne h d_P_copy_112 hf (fun hf => ?_) (fun hf => ?_)
              · refine r_aload_n h d_P_copy_121 0 rfl rfl ?_
                refine r_getR h fd_YC_0_12 cf_P fl_P_92 d_P_copy_122 ?_
                refine r_iload_n h d_P_copy_125 1 rfl rfl ?_
                refine r_iload_n h d_P_copy_126 2 rfl rfl ?_
                refine r_iload_n h d_P_copy_127 3 rfl rfl ?_
                refine r_iload h d_P_copy_128 4 rfl ?_
                refine r_iload h d_P_copy_130 5 rfl ?_
                obtain ⟨q132, e132, hf⟩ := q_bind hf
                refine r_callV (As := [.int x1, .int x2, .int x3, .int x4, .int x5]) (rest := []) h sh_YC_74 lk_P_405 vk_P_405 d_P_copy_132 (by decide) rfl rfl (Nat.le_of_ble_eq_true rfl) (m_Sheets_carry e132) ?_
                refine r_iload h d_P_copy_135 5 rfl ?_
                exact r_ireturn h d_P_copy_137.1 (q_p1 hf) (q_p2 hf)
              · refine r_aload_n h d_P_copy_115 0 rfl rfl ?_
                refine r_iconst h d_P_copy_116 ki_3 ?_
                obtain ⟨q117, e117, hf⟩ := q_bind hf
                refine r_callV (As := [.int (3 : Int32)]) (rest := []) h sh_YC_0 lk_P_163 vk_P_163 d_P_copy_117 (by decide) rfl rfl (Nat.le_of_ble_eq_true rfl) (m_P_faulted e117) ?_
                exact r_ireturn h d_P_copy_120.1 (q_p1 hf) (q_p2 hf)
          · refine r_aload_n h d_P_copy_78 0 rfl rfl ?_
            refine r_iconst h d_P_copy_79 ki_2 ?_
            obtain ⟨q80, e80, hf⟩ := q_bind hf
            refine r_callV (As := [.int (2 : Int32)]) (rest := []) h sh_YC_0 lk_P_163 vk_P_163 d_P_copy_80 (by decide) rfl rfl (Nat.le_of_ble_eq_true rfl) (m_P_faulted e80) ?_
            exact r_ireturn h d_P_copy_83.1 (q_p1 hf) (q_p2 hf)
        · refine r_aload_n h d_P_copy_51 0 rfl rfl ?_
          refine r_iconst h d_P_copy_52 ki_1 ?_
          obtain ⟨q53, e53, hf⟩ := q_bind hf
          refine r_callV (As := [.int (1 : Int32)]) (rest := []) h sh_YC_0 lk_P_163 vk_P_163 d_P_copy_53 (by decide) rfl rfl (Nat.le_of_ble_eq_true rfl) (m_P_faulted e53) ?_
          exact r_ireturn h d_P_copy_56.1 (q_p1 hf) (q_p2 hf)
    · refine r_iconst h d_P_copy_27 ki_m1 ?_
      exact r_ireturn h d_P_copy_28.1 (q_p1 hf) (q_p2 hf)

theorem d_P_isThere_0 : decode c_P_isThere 0 = .ok (.iload_n 1, 1) ∧ 0 + 1 = 1 := by decide +kernel
theorem d_P_isThere_1 : decode c_P_isThere 1 = .ok (.ifCond .ne 14, 3) ∧ 1 + 3 = 4 ∧ ((1 : Nat) : Int) + 14 = ((15 : Nat) : Int) := by decide +kernel
theorem d_P_isThere_4 : decode c_P_isThere 4 = .ok (.aload_n 0, 1) ∧ 4 + 1 = 5 := by decide +kernel
theorem d_P_isThere_5 : decode c_P_isThere 5 = .ok (.getfield 36, 3) ∧ 5 + 3 = 8 := by decide +kernel
theorem d_P_isThere_8 : decode c_P_isThere 8 = .ok (.iload_n 2, 1) ∧ 8 + 1 = 9 := by decide +kernel
theorem d_P_isThere_9 : decode c_P_isThere 9 = .ok (.invokevirtual 146, 3) ∧ 9 + 3 = 12 := by decide +kernel
theorem d_P_isThere_12 : decode c_P_isThere 12 = .ok (.goto 14, 3) ∧ (12 : Int) + 14 = (26 : Int) := by decide +kernel
theorem d_P_isThere_15 : decode c_P_isThere 15 = .ok (.iload_n 2, 1) ∧ 15 + 1 = 16 := by decide +kernel
theorem d_P_isThere_16 : decode c_P_isThere 16 = .ok (.aload_n 0, 1) ∧ 16 + 1 = 17 := by decide +kernel
theorem d_P_isThere_17 : decode c_P_isThere 17 = .ok (.getfield 64, 3) ∧ 17 + 3 = 20 := by decide +kernel
theorem d_P_isThere_20 : decode c_P_isThere 20 = .ok (.getfield 253, 3) ∧ 20 + 3 = 23 := by decide +kernel
theorem d_P_isThere_23 : decode c_P_isThere 23 = .ok (.invokestatic 96, 3) ∧ 23 + 3 = 26 := by decide +kernel
theorem d_P_isThere_26 : decode c_P_isThere 26 = .ok (.ireturn, 1) ∧ 26 + 1 = 27 := by decide +kernel
set_option maxHeartbeats 4000000 in
theorem m_P_isThere {Z : Sy} {σ : St} {res : Bool} {x1 : Int32} {x2 : Int32} (hf : P_isThere x1 x2 σ = some res) : Ct YC Z y_P_isThere c_P_isThere 3 (some .boolean) 3 [.ref (ya Z 0), .int x1, .int x2] σ (some (.int (bi res))) σ := by
  refine Ct.of pn_P (Nat.le_of_ble_eq_true rfl) rfl (fun Γ h => ?_)
  have h : IsG YC Z R_P c_P_isThere 3 3 (some .boolean) (some (.int (bi res))) σ Γ := h
  unfold P_isThere at hf
  refine r_iload_n h d_P_isThere_0 1 rfl rfl ?_
  refine r_if_ne h d_P_isThere_1 hf (fun hf => ?_) (fun hf => ?_)
  · refine r_iload_n h d_P_isThere_15 2 rfl rfl ?_
    refine r_aload_n h d_P_isThere_16 0 rfl rfl ?_
    refine r_getR h fd_YC_0_8 cf_P fl_P_64 d_P_isThere_17 ?_
    refine r_getI h fd_YC_49_7 cf_Debts fl_P_253 d_P_isThere_20 ?_
    obtain ⟨r23, e23, hf⟩ := q_bind hf
    refine r_callS (As := [.int x2, .int (σ.1 49 7)]) (rest := []) h lk_P_96 sk_P_96 d_P_isThere_23 (by decide) rfl rfl (Nat.le_of_ble_eq_true rfl) (m_P_isBelow e23) ?_
    exact r_zreturn h d_P_isThere_26.1 (congrArg bi (Option.some.inj hf)) rfl
  · refine r_aload_n h d_P_isThere_4 0 rfl rfl ?_
    refine r_getR h fd_YC_0_4 cf_P fl_P_36 d_P_isThere_5 ?_
    refine r_iload_n h d_P_isThere_8 2 rfl rfl ?_
    obtain ⟨r9, e9, hf⟩ := q_bind hf
    refine r_callV (As := [.int x2]) (rest := []) h sh_YC_21 lk_P_146 vk_P_146 d_P_isThere_9 (by decide) rfl rfl (Nat.le_of_ble_eq_true rfl) (m_Packs_has e9) ?_
    refine r_goto h d_P_isThere_12 ?_
    exact r_zreturn h d_P_isThere_26.1 (congrArg bi (Option.some.inj hf)) rfl

theorem d_P_leave_0 : decode c_P_leave 0 = .ok (.aload_n 0, 1) ∧ 0 + 1 = 1 := by decide +kernel
theorem d_P_leave_1 : decode c_P_leave 1 = .ok (.bipush 31, 2) ∧ 1 + 2 = 3 := by decide +kernel
theorem d_P_leave_3 : decode c_P_leave 3 = .ok (.aload_n 0, 1) ∧ 3 + 1 = 4 := by decide +kernel
theorem d_P_leave_4 : decode c_P_leave 4 = .ok (.getfield 440, 3) ∧ 4 + 3 = 7 := by decide +kernel
theorem d_P_leave_7 : decode c_P_leave 7 = .ok (.imul, 1) ∧ 7 + 1 = 8 := by decide +kernel
theorem d_P_leave_8 : decode c_P_leave 8 = .ok (.iload_n 1, 1) ∧ 8 + 1 = 9 := by decide +kernel
theorem d_P_leave_9 : decode c_P_leave 9 = .ok (.iadd, 1) ∧ 9 + 1 = 10 := by decide +kernel
theorem d_P_leave_10 : decode c_P_leave 10 = .ok (.putfield 440, 3) ∧ 10 + 3 = 13 := by decide +kernel
theorem d_P_leave_13 : decode c_P_leave 13 = .ok (.return_, 1) ∧ 13 + 1 = 14 := by decide +kernel
set_option maxHeartbeats 4000000 in
theorem m_P_leave {Z : Sy} {σ : St} {res : St} {x1 : Int32} (hf : P_leave x1 σ = some res) : Ct YC Z y_P_leave c_P_leave 2 none 1 [.ref (ya Z 0), .int x1] σ none res := by
  refine Ct.of pn_P (Nat.le_of_ble_eq_true rfl) rfl (fun Γ h => ?_)
  have h : IsG YC Z R_P c_P_leave 2 1 none none res Γ := h
  unfold P_leave at hf
  refine r_aload_n h d_P_leave_0 0 rfl rfl ?_
  refine r_bipush h d_P_leave_1 kb_31 ?_
  refine r_aload_n h d_P_leave_3 0 rfl rfl ?_
  refine r_getI h fd_YC_0_14 cf_P fl_P_440 d_P_leave_4 ?_
  refine r_imul h d_P_leave_7 ?_
  refine r_iload_n h d_P_leave_8 1 rfl rfl ?_
  refine r_iadd h d_P_leave_9 ?_
  refine r_putI h fd_YC_0_14 cf_P fl_P_440 ⟨rfl, rfl⟩ d_P_leave_10 ?_
  exact r_vreturn h d_P_leave_13.1 (Option.some.inj hf)

theorem d_P_bodyOfDoor_0 : decode c_P_bodyOfDoor 0 = .ok (.aload_n 0, 1) ∧ 0 + 1 = 1 := by decide +kernel
theorem d_P_bodyOfDoor_1 : decode c_P_bodyOfDoor 1 = .ok (.bipush 6, 2) ∧ 1 + 2 = 3 := by decide +kernel
theorem d_P_bodyOfDoor_3 : decode c_P_bodyOfDoor 3 = .ok (.invokevirtual 428, 3) ∧ 3 + 3 = 6 := by decide +kernel
theorem d_P_bodyOfDoor_6 : decode c_P_bodyOfDoor 6 = .ok (.aload_n 0, 1) ∧ 6 + 1 = 7 := by decide +kernel
theorem d_P_bodyOfDoor_7 : decode c_P_bodyOfDoor 7 = .ok (.getfield 64, 3) ∧ 7 + 3 = 10 := by decide +kernel
theorem d_P_bodyOfDoor_10 : decode c_P_bodyOfDoor 10 = .ok (.getfield 259, 3) ∧ 10 + 3 = 13 := by decide +kernel
theorem d_P_bodyOfDoor_13 : decode c_P_bodyOfDoor 13 = .ok (.iload_n 1, 1) ∧ 13 + 1 = 14 := by decide +kernel
theorem d_P_bodyOfDoor_14 : decode c_P_bodyOfDoor 14 = .ok (.iaload, 1) ∧ 14 + 1 = 15 := by decide +kernel
theorem d_P_bodyOfDoor_15 : decode c_P_bodyOfDoor 15 = .ok (.ireturn, 1) ∧ 15 + 1 = 16 := by decide +kernel
set_option maxHeartbeats 4000000 in
theorem m_P_bodyOfDoor {Z : Sy} {σ : St} {res : (Int32 × St)} {x1 : Int32} (hf : P_bodyOfDoor x1 σ = some res) : Ct YC Z y_P_bodyOfDoor c_P_bodyOfDoor 2 (some .int) 2 [.ref (ya Z 0), .int x1] σ (some (.int res.1)) res.2 := by
  refine Ct.of pn_P (Nat.le_of_ble_eq_true rfl) rfl (fun Γ h => ?_)
  have h : IsG YC Z R_P c_P_bodyOfDoor 2 2 (some .int) (some (.int res.1)) res.2 Γ := h
  unfold P_bodyOfDoor at hf
  refine r_aload_n h d_P_bodyOfDoor_0 0 rfl rfl ?_
  refine r_bipush h d_P_bodyOfDoor_1 kb_6 ?_
  obtain ⟨q3, e3, hf⟩ := q_bind hf
  refine r_callV (As := [.int (6 : Int32)]) (rest := []) h sh_YC_0 lk_P_428 vk_P_428 d_P_bodyOfDoor_3 (by decide) rfl rfl (Nat.le_of_ble_eq_true rfl) (m_P_leave e3) ?_
  refine r_aload_n h d_P_bodyOfDoor_6 0 rfl rfl ?_
  refine r_getR h fd_YC_0_8 cf_P fl_P_64 d_P_bodyOfDoor_7 ?_
  refine r_getR h fd_YC_49_3 cf_Debts fl_P_259 d_P_bodyOfDoor_10 ?_
  refine r_iload_n h d_P_bodyOfDoor_13 1 rfl rfl ?_
  refine r_iald h sh_YC_53 d_P_bodyOfDoor_14 hf (fun hf => ?_)
  exact r_ireturn h d_P_bodyOfDoor_15.1 (q_p1 hf) (q_p2 hf)

theorem d_P_bodyOfLeft_0 : decode c_P_bodyOfLeft 0 = .ok (.aload_n 0, 1) ∧ 0 + 1 = 1 := by decide +kernel
theorem d_P_bodyOfLeft_1 : decode c_P_bodyOfLeft 1 = .ok (.bipush 7, 2) ∧ 1 + 2 = 3 := by decide +kernel
theorem d_P_bodyOfLeft_3 : decode c_P_bodyOfLeft 3 = .ok (.invokevirtual 428, 3) ∧ 3 + 3 = 6 := by decide +kernel
theorem d_P_bodyOfLeft_6 : decode c_P_bodyOfLeft 6 = .ok (.aload_n 0, 1) ∧ 6 + 1 = 7 := by decide +kernel
theorem d_P_bodyOfLeft_7 : decode c_P_bodyOfLeft 7 = .ok (.iload_n 1, 1) ∧ 7 + 1 = 8 := by decide +kernel
theorem d_P_bodyOfLeft_8 : decode c_P_bodyOfLeft 8 = .ok (.invokevirtual 431, 3) ∧ 8 + 3 = 11 := by decide +kernel
theorem d_P_bodyOfLeft_11 : decode c_P_bodyOfLeft 11 = .ok (.iconst 1, 1) ∧ 11 + 1 = 12 := by decide +kernel
theorem d_P_bodyOfLeft_12 : decode c_P_bodyOfLeft 12 = .ok (.iadd, 1) ∧ 12 + 1 = 13 := by decide +kernel
theorem d_P_bodyOfLeft_13 : decode c_P_bodyOfLeft 13 = .ok (.ireturn, 1) ∧ 13 + 1 = 14 := by decide +kernel
set_option maxHeartbeats 4000000 in
theorem m_P_bodyOfLeft {Z : Sy} {σ : St} {res : (Int32 × St)} {x1 : Int32} (hf : P_bodyOfLeft x1 σ = some res) : Ct YC Z y_P_bodyOfLeft c_P_bodyOfLeft 2 (some .int) 3 [.ref (ya Z 0), .int x1] σ (some (.int res.1)) res.2 := by
  refine Ct.of pn_P (Nat.le_of_ble_eq_true rfl) rfl (fun Γ h => ?_)
  have h : IsG YC Z R_P c_P_bodyOfLeft 2 3 (some .int) (some (.int res.1)) res.2 Γ := h
  unfold P_bodyOfLeft at hf
  refine r_aload_n h d_P_bodyOfLeft_0 0 rfl rfl ?_
  refine r_bipush h d_P_bodyOfLeft_1 kb_7 ?_
  obtain ⟨q3, e3, hf⟩ := q_bind hf
  refine r_callV (As := [.int (7 : Int32)]) (rest := []) h sh_YC_0 lk_P_428 vk_P_428 d_P_bodyOfLeft_3 (by decide) rfl rfl (Nat.le_of_ble_eq_true rfl) (m_P_leave e3) ?_
  refine r_aload_n h d_P_bodyOfLeft_6 0 rfl rfl ?_
  refine r_iload_n h d_P_bodyOfLeft_7 1 rfl rfl ?_
  obtain ⟨q8, e8, hf⟩ := q_bind hf
  refine r_callV (As := [.int x1]) (rest := []) h sh_YC_0 lk_P_431 vk_P_431 d_P_bodyOfLeft_8 (by decide) rfl rfl (Nat.le_of_ble_eq_true rfl) (m_P_bodyOfDoor e8) ?_
  refine r_iconst h d_P_bodyOfLeft_11 ki_1 ?_
  refine r_iadd h d_P_bodyOfLeft_12 ?_
  exact r_ireturn h d_P_bodyOfLeft_13.1 (q_p1 hf) (q_p2 hf)

theorem d_P_bodyOfRags_0 : decode c_P_bodyOfRags 0 = .ok (.aload_n 0, 1) ∧ 0 + 1 = 1 := by decide +kernel
theorem d_P_bodyOfRags_1 : decode c_P_bodyOfRags 1 = .ok (.bipush 8, 2) ∧ 1 + 2 = 3 := by decide +kernel
theorem d_P_bodyOfRags_3 : decode c_P_bodyOfRags 3 = .ok (.invokevirtual 428, 3) ∧ 3 + 3 = 6 := by decide +kernel
theorem d_P_bodyOfRags_6 : decode c_P_bodyOfRags 6 = .ok (.aload_n 0, 1) ∧ 6 + 1 = 7 := by decide +kernel
theorem d_P_bodyOfRags_7 : decode c_P_bodyOfRags 7 = .ok (.iload_n 1, 1) ∧ 7 + 1 = 8 := by decide +kernel
theorem d_P_bodyOfRags_8 : decode c_P_bodyOfRags 8 = .ok (.invokevirtual 434, 3) ∧ 8 + 3 = 11 := by decide +kernel
theorem d_P_bodyOfRags_11 : decode c_P_bodyOfRags 11 = .ok (.istore_n 2, 1) ∧ 11 + 1 = 12 := by decide +kernel
theorem d_P_bodyOfRags_12 : decode c_P_bodyOfRags 12 = .ok (.iload_n 2, 1) ∧ 12 + 1 = 13 := by decide +kernel
theorem d_P_bodyOfRags_13 : decode c_P_bodyOfRags 13 = .ok (.aload_n 0, 1) ∧ 13 + 1 = 14 := by decide +kernel
theorem d_P_bodyOfRags_14 : decode c_P_bodyOfRags 14 = .ok (.iload_n 1, 1) ∧ 14 + 1 = 15 := by decide +kernel
theorem d_P_bodyOfRags_15 : decode c_P_bodyOfRags 15 = .ok (.invokevirtual 431, 3) ∧ 15 + 3 = 18 := by decide +kernel
theorem d_P_bodyOfRags_18 : decode c_P_bodyOfRags 18 = .ok (.iadd, 1) ∧ 18 + 1 = 19 := by decide +kernel
theorem d_P_bodyOfRags_19 : decode c_P_bodyOfRags 19 = .ok (.ireturn, 1) ∧ 19 + 1 = 20 := by decide +kernel
set_option maxHeartbeats 4000000 in
theorem m_P_bodyOfRags {Z : Sy} {σ : St} {res : (Int32 × St)} {x1 : Int32} (hf : P_bodyOfRags x1 σ = some res) : Ct YC Z y_P_bodyOfRags c_P_bodyOfRags 3 (some .int) 4 [.ref (ya Z 0), .int x1] σ (some (.int res.1)) res.2 := by
  refine Ct.of pn_P (Nat.le_of_ble_eq_true rfl) rfl (fun Γ h => ?_)
  have h : IsG YC Z R_P c_P_bodyOfRags 3 4 (some .int) (some (.int res.1)) res.2 Γ := h
  unfold P_bodyOfRags at hf
  refine r_aload_n h d_P_bodyOfRags_0 0 rfl rfl ?_
  refine r_bipush h d_P_bodyOfRags_1 kb_8 ?_
  obtain ⟨q3, e3, hf⟩ := q_bind hf
  refine r_callV (As := [.int (8 : Int32)]) (rest := []) h sh_YC_0 lk_P_428 vk_P_428 d_P_bodyOfRags_3 (by decide) rfl rfl (Nat.le_of_ble_eq_true rfl) (m_P_leave e3) ?_
  refine r_aload_n h d_P_bodyOfRags_6 0 rfl rfl ?_
  refine r_iload_n h d_P_bodyOfRags_7 1 rfl rfl ?_
  obtain ⟨q8, e8, hf⟩ := q_bind hf
  refine r_callV (As := [.int x1]) (rest := []) h sh_YC_0 lk_P_434 vk_P_434 d_P_bodyOfRags_8 (by decide) rfl rfl (Nat.le_of_ble_eq_true rfl) (m_P_bodyOfLeft e8) ?_
  refine r_istore_n (ls' := [(2, .int q8.1), (0, .ref (ya Z 0)), (1, .int x1)]) h d_P_bodyOfRags_11 rfl (by decide) rfl ?_
  refine r_iload_n h d_P_bodyOfRags_12 0 rfl rfl ?_
  refine r_aload_n h d_P_bodyOfRags_13 1 rfl rfl ?_
  refine r_iload_n h d_P_bodyOfRags_14 2 rfl rfl ?_
  obtain ⟨q15, e15, hf⟩ := q_bind hf
  refine r_callV (As := [.int x1]) (rest := [.int q8.1]) h sh_YC_0 lk_P_431 vk_P_431 d_P_bodyOfRags_15 (by decide) rfl rfl (Nat.le_of_ble_eq_true rfl) (m_P_bodyOfDoor e15) ?_
  refine r_iadd h d_P_bodyOfRags_18 ?_
  exact r_ireturn h d_P_bodyOfRags_19.1 (q_p1 hf) (q_p2 hf)

theorem d_P_tellingOfDebt_0 : decode c_P_tellingOfDebt 0 = .ok (.aload_n 0, 1) ∧ 0 + 1 = 1 := by decide +kernel
theorem d_P_tellingOfDebt_1 : decode c_P_tellingOfDebt 1 = .ok (.getfield 64, 3) ∧ 1 + 3 = 4 := by decide +kernel
theorem d_P_tellingOfDebt_4 : decode c_P_tellingOfDebt 4 = .ok (.getfield 254, 3) ∧ 4 + 3 = 7 := by decide +kernel
theorem d_P_tellingOfDebt_7 : decode c_P_tellingOfDebt 7 = .ok (.iload_n 1, 1) ∧ 7 + 1 = 8 := by decide +kernel
theorem d_P_tellingOfDebt_8 : decode c_P_tellingOfDebt 8 = .ok (.iaload, 1) ∧ 8 + 1 = 9 := by decide +kernel
theorem d_P_tellingOfDebt_9 : decode c_P_tellingOfDebt 9 = .ok (.lookupswitch 39 #[(0, 27), (1, 33)], 27) ∧ 9 + 27 = 36 := by decide +kernel
theorem d_P_tellingOfDebt_36 : decode c_P_tellingOfDebt 36 = .ok (.aload_n 0, 1) ∧ 36 + 1 = 37 := by decide +kernel
theorem d_P_tellingOfDebt_37 : decode c_P_tellingOfDebt 37 = .ok (.iload_n 1, 1) ∧ 37 + 1 = 38 := by decide +kernel
theorem d_P_tellingOfDebt_38 : decode c_P_tellingOfDebt 38 = .ok (.invokevirtual 431, 3) ∧ 38 + 3 = 41 := by decide +kernel
theorem d_P_tellingOfDebt_41 : decode c_P_tellingOfDebt 41 = .ok (.ireturn, 1) ∧ 41 + 1 = 42 := by decide +kernel
theorem d_P_tellingOfDebt_42 : decode c_P_tellingOfDebt 42 = .ok (.aload_n 0, 1) ∧ 42 + 1 = 43 := by decide +kernel
theorem d_P_tellingOfDebt_43 : decode c_P_tellingOfDebt 43 = .ok (.iload_n 1, 1) ∧ 43 + 1 = 44 := by decide +kernel
theorem d_P_tellingOfDebt_44 : decode c_P_tellingOfDebt 44 = .ok (.invokevirtual 434, 3) ∧ 44 + 3 = 47 := by decide +kernel
theorem d_P_tellingOfDebt_47 : decode c_P_tellingOfDebt 47 = .ok (.ireturn, 1) ∧ 47 + 1 = 48 := by decide +kernel
theorem d_P_tellingOfDebt_48 : decode c_P_tellingOfDebt 48 = .ok (.aload_n 0, 1) ∧ 48 + 1 = 49 := by decide +kernel
theorem d_P_tellingOfDebt_49 : decode c_P_tellingOfDebt 49 = .ok (.iload_n 1, 1) ∧ 49 + 1 = 50 := by decide +kernel
theorem d_P_tellingOfDebt_50 : decode c_P_tellingOfDebt 50 = .ok (.invokevirtual 437, 3) ∧ 50 + 3 = 53 := by decide +kernel
theorem d_P_tellingOfDebt_53 : decode c_P_tellingOfDebt 53 = .ok (.ireturn, 1) ∧ 53 + 1 = 54 := by decide +kernel
set_option maxHeartbeats 4000000 in
theorem m_P_tellingOfDebt {Z : Sy} {σ : St} {res : (Int32 × St)} {x1 : Int32} (hf : P_tellingOfDebt x1 σ = some res) : Ct YC Z y_P_tellingOfDebt c_P_tellingOfDebt 2 (some .int) 5 [.ref (ya Z 0), .int x1] σ (some (.int res.1)) res.2 := by
  refine Ct.of pn_P (Nat.le_of_ble_eq_true rfl) rfl (fun Γ h => ?_)
  have h : IsG YC Z R_P c_P_tellingOfDebt 2 5 (some .int) (some (.int res.1)) res.2 Γ := h
  unfold P_tellingOfDebt at hf
  refine r_aload_n h d_P_tellingOfDebt_0 0 rfl rfl ?_
  refine r_getR h fd_YC_0_8 cf_P fl_P_64 d_P_tellingOfDebt_1 ?_
  refine r_getR h fd_YC_49_0 cf_Debts fl_P_254 d_P_tellingOfDebt_4 ?_
  refine r_iload_n h d_P_tellingOfDebt_7 1 rfl rfl ?_
  refine r_iald h sh_YC_50 d_P_tellingOfDebt_8 hf (fun hf => ?_)
  refine q_case hf (fun hq hf => ?_) (fun hn0 hf => ?_)
  · refine r_look (tgt := 36) (off := 27) h d_P_tellingOfDebt_9.1 (by decide) (by rw [hq]; decide) (by decide) ?_
    refine r_aload_n h d_P_tellingOfDebt_36 0 rfl rfl ?_
    refine r_iload_n h d_P_tellingOfDebt_37 1 rfl rfl ?_
    obtain ⟨q38, e38, hf⟩ := q_bind hf
    refine r_callV (As := [.int x1]) (rest := []) h sh_YC_0 lk_P_431 vk_P_431 d_P_tellingOfDebt_38 (by decide) rfl rfl (Nat.le_of_ble_eq_true rfl) (m_P_bodyOfDoor e38) ?_
    exact r_ireturn h d_P_tellingOfDebt_41.1 (q_p1 hf) (q_p2 hf)
  ·
    refine q_case hf (fun hq hf => ?_) (fun hn1 hf => ?_)
    · refine r_look (tgt := 42) (off := 33) h d_P_tellingOfDebt_9.1 (by decide) (by rw [hq]; decide) (by decide) ?_
      refine r_aload_n h d_P_tellingOfDebt_42 0 rfl rfl ?_
      refine r_iload_n h d_P_tellingOfDebt_43 1 rfl rfl ?_
      obtain ⟨q44, e44, hf⟩ := q_bind hf
      refine r_callV (As := [.int x1]) (rest := []) h sh_YC_0 lk_P_434 vk_P_434 d_P_tellingOfDebt_44 (by decide) rfl rfl (Nat.le_of_ble_eq_true rfl) (m_P_bodyOfLeft e44) ?_
      exact r_ireturn h d_P_tellingOfDebt_47.1 (q_p1 hf) (q_p2 hf)
    ·
      have g0 := (q_neI hn0).symm
      have g1 := (q_neI hn1).symm
      refine r_look (tgt := 48) (off := 39) h d_P_tellingOfDebt_9.1 (by decide) (by simp at g0 g1; simp [Op.lookupswitch.offset, *]) (by decide) ?_
      refine r_aload_n h d_P_tellingOfDebt_48 0 rfl rfl ?_
      refine r_iload_n h d_P_tellingOfDebt_49 1 rfl rfl ?_
      obtain ⟨q50, e50, hf⟩ := q_bind hf
      refine r_callV (As := [.int x1]) (rest := []) h sh_YC_0 lk_P_437 vk_P_437 d_P_tellingOfDebt_50 (by decide) rfl rfl (Nat.le_of_ble_eq_true rfl) (m_P_bodyOfRags e50) ?_
      exact r_ireturn h d_P_tellingOfDebt_53.1 (q_p1 hf) (q_p2 hf)

theorem d_P_bodyOfPack_0 : decode c_P_bodyOfPack 0 = .ok (.aload_n 0, 1) ∧ 0 + 1 = 1 := by decide +kernel
theorem d_P_bodyOfPack_1 : decode c_P_bodyOfPack 1 = .ok (.iconst 1, 1) ∧ 1 + 1 = 2 := by decide +kernel
theorem d_P_bodyOfPack_2 : decode c_P_bodyOfPack 2 = .ok (.invokevirtual 428, 3) ∧ 2 + 3 = 5 := by decide +kernel
theorem d_P_bodyOfPack_5 : decode c_P_bodyOfPack 5 = .ok (.aload_n 0, 1) ∧ 5 + 1 = 6 := by decide +kernel
theorem d_P_bodyOfPack_6 : decode c_P_bodyOfPack 6 = .ok (.getfield 43, 3) ∧ 6 + 3 = 9 := by decide +kernel
theorem d_P_bodyOfPack_9 : decode c_P_bodyOfPack 9 = .ok (.iload_n 1, 1) ∧ 9 + 1 = 10 := by decide +kernel
theorem d_P_bodyOfPack_10 : decode c_P_bodyOfPack 10 = .ok (.invokevirtual 175, 3) ∧ 10 + 3 = 13 := by decide +kernel
theorem d_P_bodyOfPack_13 : decode c_P_bodyOfPack 13 = .ok (.ireturn, 1) ∧ 13 + 1 = 14 := by decide +kernel
set_option maxHeartbeats 4000000 in
theorem m_P_bodyOfPack {Z : Sy} {σ : St} {res : (Int32 × St)} {x1 : Int32} (hf : P_bodyOfPack x1 σ = some res) : Ct YC Z y_P_bodyOfPack c_P_bodyOfPack 2 (some .int) 2 [.ref (ya Z 0), .int x1] σ (some (.int res.1)) res.2 := by
  refine Ct.of pn_P (Nat.le_of_ble_eq_true rfl) rfl (fun Γ h => ?_)
  have h : IsG YC Z R_P c_P_bodyOfPack 2 2 (some .int) (some (.int res.1)) res.2 Γ := h
  unfold P_bodyOfPack at hf
  refine r_aload_n h d_P_bodyOfPack_0 0 rfl rfl ?_
  refine r_iconst h d_P_bodyOfPack_1 ki_1 ?_
  obtain ⟨q2, e2, hf⟩ := q_bind hf
  refine r_callV (As := [.int (1 : Int32)]) (rest := []) h sh_YC_0 lk_P_428 vk_P_428 d_P_bodyOfPack_2 (by decide) rfl rfl (Nat.le_of_ble_eq_true rfl) (m_P_leave e2) ?_
  refine r_aload_n h d_P_bodyOfPack_5 0 rfl rfl ?_
  refine r_getR h fd_YC_0_5 cf_P fl_P_43 d_P_bodyOfPack_6 ?_
  refine r_iload_n h d_P_bodyOfPack_9 1 rfl rfl ?_
  obtain ⟨r10, e10, hf⟩ := q_bind hf
  refine r_callV (As := [.int x1]) (rest := []) h sh_YC_28 lk_P_175 vk_P_175 d_P_bodyOfPack_10 (by decide) rfl rfl (Nat.le_of_ble_eq_true rfl) (m_Ledger_countOf e10) ?_
  exact r_ireturn h d_P_bodyOfPack_13.1 (q_p1 hf) (q_p2 hf)

