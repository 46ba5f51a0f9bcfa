theorem d_Spans_whosOn_0 : decode c_Spans_whosOn 0 = .ok (.iconst 0, 1) ∧ 0 + 1 = 1 := by decide +kernel
theorem d_Spans_whosOn_1 : decode c_Spans_whosOn 1 = .ok (.istore_n 3, 1) ∧ 1 + 1 = 2 := by decide +kernel
theorem d_Spans_whosOn_2 : decode c_Spans_whosOn 2 = .ok (.iconst 0, 1) ∧ 2 + 1 = 3 := by decide +kernel
theorem d_Spans_whosOn_3 : decode c_Spans_whosOn 3 = .ok (.istore 4, 2) ∧ 3 + 2 = 5 := by decide +kernel
theorem d_Spans_whosOn_5 : decode c_Spans_whosOn 5 = .ok (.iload 4, 2) ∧ 5 + 2 = 7 := by decide +kernel
theorem d_Spans_whosOn_7 : decode c_Spans_whosOn 7 = .ok (.aload_n 0, 1) ∧ 7 + 1 = 8 := by decide +kernel
theorem d_Spans_whosOn_8 : decode c_Spans_whosOn 8 = .ok (.getfield 30, 3) ∧ 8 + 3 = 11 := by decide +kernel
theorem d_Spans_whosOn_11 : decode c_Spans_whosOn 11 = .ok (.if_icmp .ge 42, 3) ∧ 11 + 3 = 14 ∧ ((11 : Nat) : Int) + 42 = ((53 : Nat) : Int) := by decide +kernel
theorem d_Spans_whosOn_14 : decode c_Spans_whosOn 14 = .ok (.aload_n 0, 1) ∧ 14 + 1 = 15 := by decide +kernel
theorem d_Spans_whosOn_15 : decode c_Spans_whosOn 15 = .ok (.getfield 21, 3) ∧ 15 + 3 = 18 := by decide +kernel
theorem d_Spans_whosOn_18 : decode c_Spans_whosOn 18 = .ok (.iload 4, 2) ∧ 18 + 2 = 20 := by decide +kernel
theorem d_Spans_whosOn_20 : decode c_Spans_whosOn 20 = .ok (.iaload, 1) ∧ 20 + 1 = 21 := by decide +kernel
theorem d_Spans_whosOn_21 : decode c_Spans_whosOn 21 = .ok (.iload_n 1, 1) ∧ 21 + 1 = 22 := by decide +kernel
theorem d_Spans_whosOn_22 : decode c_Spans_whosOn 22 = .ok (.if_icmp .ne 25, 3) ∧ 22 + 3 = 25 ∧ ((22 : Nat) : Int) + 25 = ((47 : Nat) : Int) := by decide +kernel
theorem d_Spans_whosOn_25 : decode c_Spans_whosOn 25 = .ok (.aload_n 0, 1) ∧ 25 + 1 = 26 := by decide +kernel
theorem d_Spans_whosOn_26 : decode c_Spans_whosOn 26 = .ok (.iload 4, 2) ∧ 26 + 2 = 28 := by decide +kernel
theorem d_Spans_whosOn_28 : decode c_Spans_whosOn 28 = .ok (.iload_n 2, 1) ∧ 28 + 1 = 29 := by decide +kernel
theorem d_Spans_whosOn_29 : decode c_Spans_whosOn 29 = .ok (.invokevirtual 34, 3) ∧ 29 + 3 = 32 := by decide +kernel
theorem d_Spans_whosOn_32 : decode c_Spans_whosOn 32 = .ok (.ifCond .eq 15, 3) ∧ 32 + 3 = 35 ∧ ((32 : Nat) : Int) + 15 = ((47 : Nat) : Int) := by decide +kernel
theorem d_Spans_whosOn_35 : decode c_Spans_whosOn 35 = .ok (.iload_n 3, 1) ∧ 35 + 1 = 36 := by decide +kernel
theorem d_Spans_whosOn_36 : decode c_Spans_whosOn 36 = .ok (.iconst 1, 1) ∧ 36 + 1 = 37 := by decide +kernel
theorem d_Spans_whosOn_37 : decode c_Spans_whosOn 37 = .ok (.aload_n 0, 1) ∧ 37 + 1 = 38 := by decide +kernel
theorem d_Spans_whosOn_38 : decode c_Spans_whosOn 38 = .ok (.getfield 15, 3) ∧ 38 + 3 = 41 := by decide +kernel
theorem d_Spans_whosOn_41 : decode c_Spans_whosOn 41 = .ok (.iload 4, 2) ∧ 41 + 2 = 43 := by decide +kernel
theorem d_Spans_whosOn_43 : decode c_Spans_whosOn 43 = .ok (.iaload, 1) ∧ 43 + 1 = 44 := by decide +kernel
theorem d_Spans_whosOn_44 : decode c_Spans_whosOn 44 = .ok (.ishl, 1) ∧ 44 + 1 = 45 := by decide +kernel
theorem d_Spans_whosOn_45 : decode c_Spans_whosOn 45 = .ok (.ior, 1) ∧ 45 + 1 = 46 := by decide +kernel
theorem d_Spans_whosOn_46 : decode c_Spans_whosOn 46 = .ok (.istore_n 3, 1) ∧ 46 + 1 = 47 := by decide +kernel
theorem d_Spans_whosOn_47 : decode c_Spans_whosOn 47 = .ok (.iinc 4 1, 3) ∧ 47 + 3 = 50 := by decide +kernel
theorem d_Spans_whosOn_50 : decode c_Spans_whosOn 50 = .ok (.goto (-45), 3) ∧ (50 : Int) + (-45) = (5 : Int) := by decide +kernel
theorem d_Spans_whosOn_53 : decode c_Spans_whosOn 53 = .ok (.iload_n 3, 1) ∧ 53 + 1 = 54 := by decide +kernel
theorem d_Spans_whosOn_54 : decode c_Spans_whosOn 54 = .ok (.ireturn, 1) ∧ 54 + 1 = 55 := by decide +kernel
set_option maxHeartbeats 4000000 in
theorem w_Spans_whosOn_rights_L5 {Z : Sy} {Γ : Nat → List (Nat × Value) → List Value → St → Prop} {res : Int32} {x1 : Int32} {x2 : Int32} {σ : St} (h : IsG YC Z R_Spans c_Spans_whosOn 5 2 (some .int) (some (.int res)) σ Γ) : ∀ (n : Nat) (x3 : Int32) (x4 : Int32), Spans_whosOn_rights_L5 x1 x2 σ n x3 x4 = some res → Γ 5 [(0, .ref (ya Z 16)), (1, .int x1), (2, .int x2), (3, .int x3), (4, .int x4)] [] σ := by
  intro n
  induction n with
  | zero => intro x3 x4 hf; exact absurd hf (by simp [Spans_whosOn_rights_L5])
  | succ n ih =>
    intro x3 x4 hf
    rw [Spans_whosOn_rights_L5] at hf
    refine r_iload h d_Spans_whosOn_5 4 rfl ?_
    refine r_aload_n h d_Spans_whosOn_7 0 rfl rfl ?_
    refine r_getI h fd_YC_16_4 cf_Spans fl_Spans_30 d_Spans_whosOn_8 ?_
    refine r_icmp_ge h d_Spans_whosOn_11 hf (fun hf => ?_) (fun hf => ?_)
    · refine r_iload_n h d_Spans_whosOn_53 3 rfl rfl ?_
      exact r_ireturn h d_Spans_whosOn_54.1 (Option.some.inj hf) rfl
    · refine r_aload_n h d_Spans_whosOn_14 0 rfl rfl ?_
      refine r_getR h fd_YC_16_1 cf_Spans fl_Spans_21 d_Spans_whosOn_15 ?_
      refine r_iload h d_Spans_whosOn_18 4 rfl ?_
      refine r_iald h sh_YC_18 d_Spans_whosOn_20 hf (fun hf => ?_)
      refine r_iload_n h d_Spans_whosOn_21 1 rfl rfl ?_
      refine r_icmp_ne h d_Spans_whosOn_22 hf (fun hf => ?_) (fun hf => ?_)
      · refine r_iinc (ls' := [(4, .int (x4 + (1 : Int32))), (0, .ref (ya Z 16)), (1, .int x1), (2, .int x2), (3, .int x3)]) h d_Spans_whosOn_47 4 rfl ki_1 (by decide) rfl ?_
        refine r_goto h d_Spans_whosOn_50 ?_
        refine r_sub h [1, 2, 3, 4, 0] rfl ?_
        exact ih _ _ hf
      · refine r_aload_n h d_Spans_whosOn_25 0 rfl rfl ?_
        refine r_iload h d_Spans_whosOn_26 4 rfl ?_
        refine r_iload_n h d_Spans_whosOn_28 2 rfl rfl ?_
        obtain ⟨r29, e29, hf⟩ := q_bind hf
        refine r_callV (As := [.int x4, .int x2]) (rest := []) h sh_YC_16 lk_Spans_34 vk_Spans_34 d_Spans_whosOn_29 (by decide) rfl rfl (Nat.le_of_ble_eq_true rfl) (m_Spans_covers_rights e29) ?_
        refine r_bif_eq h d_Spans_whosOn_32 hf (fun hf => ?_) (fun hf => ?_)
        · refine r_iinc (ls' := [(4, .int (x4 + (1 : Int32))), (0, .ref (ya Z 16)), (1, .int x1), (2, .int x2), (3, .int x3)]) h d_Spans_whosOn_47 4 rfl ki_1 (by decide) rfl ?_
          refine r_goto h d_Spans_whosOn_50 ?_
          refine r_sub h [1, 2, 3, 4, 0] rfl ?_
          exact ih _ _ hf
        · refine r_iload_n h d_Spans_whosOn_35 3 rfl rfl ?_
          refine r_iconst h d_Spans_whosOn_36 ki_1 ?_
          refine r_aload_n h d_Spans_whosOn_37 0 rfl rfl ?_
          refine r_getR h fd_YC_16_0 cf_Spans fl_Spans_15 d_Spans_whosOn_38 ?_
          refine r_iload h d_Spans_whosOn_41 4 rfl ?_
          refine r_iald h sh_YC_17 d_Spans_whosOn_43 hf (fun hf => ?_)
          refine r_ishl h d_Spans_whosOn_44 ?_
          refine r_ior h d_Spans_whosOn_45 ?_
          refine r_istore_n (ls' := [(3, .int (x3 ||| ((1 : Int32) <<< ((σ.1 17 (Int32.toNatClampNeg x4)) &&& 31)))), (0, .ref (ya Z 16)), (1, .int x1), (2, .int x2), (4, .int x4)]) h d_Spans_whosOn_46 rfl (by decide) rfl ?_
          refine r_iinc (ls' := [(4, .int (x4 + (1 : Int32))), (3, .int (x3 ||| ((1 : Int32) <<< ((σ.1 17 (Int32.toNatClampNeg x4)) &&& 31)))), (0, .ref (ya Z 16)), (1, .int x1), (2, .int x2)]) h d_Spans_whosOn_47 4 rfl ki_1 (by decide) rfl ?_
          refine r_goto h d_Spans_whosOn_50 ?_
          refine r_sub h [2, 3, 4, 1, 0] rfl ?_
          exact ih _ _ hf

set_option maxHeartbeats 4000000 in
theorem m_Spans_whosOn_rights {Z : Sy} {σ : St} {res : Int32} {x1 : Int32} {x2 : Int32} (hf : Spans_whosOn_rights x1 x2 σ = some res) : Ct YC Z y_Spans_whosOn c_Spans_whosOn 5 (some .int) 2 [.ref (ya Z 16), .int x1, .int x2] σ (some (.int res)) σ := by
  refine Ct.of pn_Spans (Nat.le_of_ble_eq_true rfl) rfl (fun Γ h => ?_)
  have h : IsG YC Z R_Spans c_Spans_whosOn 5 2 (some .int) (some (.int res)) σ Γ := h
  unfold Spans_whosOn_rights at hf
  refine r_iconst h d_Spans_whosOn_0 ki_0 ?_
  refine r_istore_n (ls' := [(3, .int (0 : Int32)), (0, .ref (ya Z 16)), (1, .int x1), (2, .int x2)]) h d_Spans_whosOn_1 rfl (by decide) rfl ?_
  refine r_iconst h d_Spans_whosOn_2 ki_0 ?_
  refine r_istore (ls' := [(4, .int (0 : Int32)), (3, .int (0 : Int32)), (0, .ref (ya Z 16)), (1, .int x1), (2, .int x2)]) h d_Spans_whosOn_3 (by decide) rfl ?_
  refine r_sub h [2, 3, 4, 1, 0] rfl ?_
  exact w_Spans_whosOn_rights_L5 h _ _ _ hf

theorem d_JI_bitCount_0 : decode c_JI_bitCount 0 = .ok (.iload_n 0, 1) ∧ 0 + 1 = 1 := by decide +kernel
theorem d_JI_bitCount_1 : decode c_JI_bitCount 1 = .ok (.iload_n 0, 1) ∧ 1 + 1 = 2 := by decide +kernel
theorem d_JI_bitCount_2 : decode c_JI_bitCount 2 = .ok (.iconst 1, 1) ∧ 2 + 1 = 3 := by decide +kernel
theorem d_JI_bitCount_3 : decode c_JI_bitCount 3 = .ok (.iushr, 1) ∧ 3 + 1 = 4 := by decide +kernel
theorem d_JI_bitCount_4 : decode c_JI_bitCount 4 = .ok (.ldc_w 265, 3) ∧ 4 + 3 = 7 := by decide +kernel
theorem d_JI_bitCount_7 : decode c_JI_bitCount 7 = .ok (.iand, 1) ∧ 7 + 1 = 8 := by decide +kernel
theorem d_JI_bitCount_8 : decode c_JI_bitCount 8 = .ok (.isub, 1) ∧ 8 + 1 = 9 := by decide +kernel
theorem d_JI_bitCount_9 : decode c_JI_bitCount 9 = .ok (.istore_n 0, 1) ∧ 9 + 1 = 10 := by decide +kernel
theorem d_JI_bitCount_10 : decode c_JI_bitCount 10 = .ok (.iload_n 0, 1) ∧ 10 + 1 = 11 := by decide +kernel
theorem d_JI_bitCount_11 : decode c_JI_bitCount 11 = .ok (.ldc_w 266, 3) ∧ 11 + 3 = 14 := by decide +kernel
theorem d_JI_bitCount_14 : decode c_JI_bitCount 14 = .ok (.iand, 1) ∧ 14 + 1 = 15 := by decide +kernel
theorem d_JI_bitCount_15 : decode c_JI_bitCount 15 = .ok (.iload_n 0, 1) ∧ 15 + 1 = 16 := by decide +kernel
theorem d_JI_bitCount_16 : decode c_JI_bitCount 16 = .ok (.iconst 2, 1) ∧ 16 + 1 = 17 := by decide +kernel
theorem d_JI_bitCount_17 : decode c_JI_bitCount 17 = .ok (.iushr, 1) ∧ 17 + 1 = 18 := by decide +kernel
theorem d_JI_bitCount_18 : decode c_JI_bitCount 18 = .ok (.ldc_w 266, 3) ∧ 18 + 3 = 21 := by decide +kernel
theorem d_JI_bitCount_21 : decode c_JI_bitCount 21 = .ok (.iand, 1) ∧ 21 + 1 = 22 := by decide +kernel
theorem d_JI_bitCount_22 : decode c_JI_bitCount 22 = .ok (.iadd, 1) ∧ 22 + 1 = 23 := by decide +kernel
theorem d_JI_bitCount_23 : decode c_JI_bitCount 23 = .ok (.istore_n 0, 1) ∧ 23 + 1 = 24 := by decide +kernel
theorem d_JI_bitCount_24 : decode c_JI_bitCount 24 = .ok (.iload_n 0, 1) ∧ 24 + 1 = 25 := by decide +kernel
theorem d_JI_bitCount_25 : decode c_JI_bitCount 25 = .ok (.iload_n 0, 1) ∧ 25 + 1 = 26 := by decide +kernel
theorem d_JI_bitCount_26 : decode c_JI_bitCount 26 = .ok (.iconst 4, 1) ∧ 26 + 1 = 27 := by decide +kernel
theorem d_JI_bitCount_27 : decode c_JI_bitCount 27 = .ok (.iushr, 1) ∧ 27 + 1 = 28 := by decide +kernel
theorem d_JI_bitCount_28 : decode c_JI_bitCount 28 = .ok (.iadd, 1) ∧ 28 + 1 = 29 := by decide +kernel
theorem d_JI_bitCount_29 : decode c_JI_bitCount 29 = .ok (.ldc_w 267, 3) ∧ 29 + 3 = 32 := by decide +kernel
theorem d_JI_bitCount_32 : decode c_JI_bitCount 32 = .ok (.iand, 1) ∧ 32 + 1 = 33 := by decide +kernel
theorem d_JI_bitCount_33 : decode c_JI_bitCount 33 = .ok (.istore_n 0, 1) ∧ 33 + 1 = 34 := by decide +kernel
theorem d_JI_bitCount_34 : decode c_JI_bitCount 34 = .ok (.iload_n 0, 1) ∧ 34 + 1 = 35 := by decide +kernel
theorem d_JI_bitCount_35 : decode c_JI_bitCount 35 = .ok (.iload_n 0, 1) ∧ 35 + 1 = 36 := by decide +kernel
theorem d_JI_bitCount_36 : decode c_JI_bitCount 36 = .ok (.bipush 8, 2) ∧ 36 + 2 = 38 := by decide +kernel
theorem d_JI_bitCount_38 : decode c_JI_bitCount 38 = .ok (.iushr, 1) ∧ 38 + 1 = 39 := by decide +kernel
theorem d_JI_bitCount_39 : decode c_JI_bitCount 39 = .ok (.iadd, 1) ∧ 39 + 1 = 40 := by decide +kernel
theorem d_JI_bitCount_40 : decode c_JI_bitCount 40 = .ok (.istore_n 0, 1) ∧ 40 + 1 = 41 := by decide +kernel
theorem d_JI_bitCount_41 : decode c_JI_bitCount 41 = .ok (.iload_n 0, 1) ∧ 41 + 1 = 42 := by decide +kernel
theorem d_JI_bitCount_42 : decode c_JI_bitCount 42 = .ok (.iload_n 0, 1) ∧ 42 + 1 = 43 := by decide +kernel
theorem d_JI_bitCount_43 : decode c_JI_bitCount 43 = .ok (.bipush 16, 2) ∧ 43 + 2 = 45 := by decide +kernel
theorem d_JI_bitCount_45 : decode c_JI_bitCount 45 = .ok (.iushr, 1) ∧ 45 + 1 = 46 := by decide +kernel
theorem d_JI_bitCount_46 : decode c_JI_bitCount 46 = .ok (.iadd, 1) ∧ 46 + 1 = 47 := by decide +kernel
theorem d_JI_bitCount_47 : decode c_JI_bitCount 47 = .ok (.istore_n 0, 1) ∧ 47 + 1 = 48 := by decide +kernel
theorem d_JI_bitCount_48 : decode c_JI_bitCount 48 = .ok (.iload_n 0, 1) ∧ 48 + 1 = 49 := by decide +kernel
theorem d_JI_bitCount_49 : decode c_JI_bitCount 49 = .ok (.bipush 63, 2) ∧ 49 + 2 = 51 := by decide +kernel
theorem d_JI_bitCount_51 : decode c_JI_bitCount 51 = .ok (.iand, 1) ∧ 51 + 1 = 52 := by decide +kernel
theorem d_JI_bitCount_52 : decode c_JI_bitCount 52 = .ok (.ireturn, 1) ∧ 52 + 1 = 53 := by decide +kernel
set_option maxHeartbeats 4000000 in
theorem m_JI_bitCount {Z : Sy} {σ : St} {res : Int32} {x0 : Int32} (hf : JI_bitCount x0 σ = some res) : Ct YC Z y_JI_bitCount c_JI_bitCount 1 (some .int) 1 [.int x0] σ (some (.int res)) σ := by
  refine Ct.of pn_JI (Nat.le_of_ble_eq_true rfl) rfl (fun Γ h => ?_)
  have h : IsG YC Z R_JI c_JI_bitCount 1 1 (some .int) (some (.int res)) σ Γ := h
  unfold JI_bitCount at hf
  refine r_iload_n h d_JI_bitCount_0 0 rfl rfl ?_
  refine r_iload_n h d_JI_bitCount_1 0 rfl rfl ?_
  refine r_iconst h d_JI_bitCount_2 ki_1 ?_
  refine r_iushr h d_JI_bitCount_3 ?_
  refine r_ldcw h d_JI_bitCount_4 tm_1020 ?_
  refine r_iand h d_JI_bitCount_7 ?_
  refine r_isub h d_JI_bitCount_8 ?_
  refine r_istore_n (ls' := [(0, .int (x0 - (((x0.toUInt32 >>> ((1 : Int32).toUInt32 &&& Int32.toUInt32 31)).toInt32) &&& (1431655765 : Int32))))]) h d_JI_bitCount_9 rfl (by decide) rfl ?_
  refine r_iload_n h d_JI_bitCount_10 0 rfl rfl ?_
  refine r_ldcw h d_JI_bitCount_11 tm_1021 ?_
  refine r_iand h d_JI_bitCount_14 ?_
  refine r_iload_n h d_JI_bitCount_15 0 rfl rfl ?_
  refine r_iconst h d_JI_bitCount_16 ki_2 ?_
  refine r_iushr h d_JI_bitCount_17 ?_
  refine r_ldcw h d_JI_bitCount_18 tm_1021 ?_
  refine r_iand h d_JI_bitCount_21 ?_
  refine r_iadd h d_JI_bitCount_22 ?_
  refine r_istore_n (ls' := [(0, .int (((x0 - (((x0.toUInt32 >>> ((1 : Int32).toUInt32 &&& Int32.toUInt32 31)).toInt32) &&& (1431655765 : Int32))) &&& (858993459 : Int32)) + ((((x0 - (((x0.toUInt32 >>> ((1 : Int32).toUInt32 &&& Int32.toUInt32 31)).toInt32) &&& (1431655765 : Int32))).toUInt32 >>> ((2 : Int32).toUInt32 &&& Int32.toUInt32 31)).toInt32) &&& (858993459 : Int32))))]) h d_JI_bitCount_23 rfl (by decide) rfl ?_
  refine r_iload_n h d_JI_bitCount_24 0 rfl rfl ?_
  refine r_iload_n h d_JI_bitCount_25 0 rfl rfl ?_
  refine r_iconst h d_JI_bitCount_26 ki_4 ?_
  refine r_iushr h d_JI_bitCount_27 ?_
  refine r_iadd h d_JI_bitCount_28 ?_
  refine r_ldcw h d_JI_bitCount_29 tm_1022 ?_
  refine r_iand h d_JI_bitCount_32 ?_
  refine r_istore_n (ls' := [(0, .int (((((x0 - (((x0.toUInt32 >>> ((1 : Int32).toUInt32 &&& Int32.toUInt32 31)).toInt32) &&& (1431655765 : Int32))) &&& (858993459 : Int32)) + ((((x0 - (((x0.toUInt32 >>> ((1 : Int32).toUInt32 &&& Int32.toUInt32 31)).toInt32) &&& (1431655765 : Int32))).toUInt32 >>> ((2 : Int32).toUInt32 &&& Int32.toUInt32 31)).toInt32) &&& (858993459 : Int32))) + (((((x0 - (((x0.toUInt32 >>> ((1 : Int32).toUInt32 &&& Int32.toUInt32 31)).toInt32) &&& (1431655765 : Int32))) &&& (858993459 : Int32)) + ((((x0 - (((x0.toUInt32 >>> ((1 : Int32).toUInt32 &&& Int32.toUInt32 31)).toInt32) &&& (1431655765 : Int32))).toUInt32 >>> ((2 : Int32).toUInt32 &&& Int32.toUInt32 31)).toInt32) &&& (858993459 : Int32))).toUInt32 >>> ((4 : Int32).toUInt32 &&& Int32.toUInt32 31)).toInt32)) &&& (252645135 : Int32)))]) h d_JI_bitCount_33 rfl (by decide) rfl ?_
  refine r_iload_n h d_JI_bitCount_34 0 rfl rfl ?_
  refine r_iload_n h d_JI_bitCount_35 0 rfl rfl ?_
  refine r_bipush h d_JI_bitCount_36 kb_8 ?_
  refine r_iushr h d_JI_bitCount_38 ?_
  refine r_iadd h d_JI_bitCount_39 ?_
  refine r_istore_n (ls' := [(0, .int ((((((x0 - (((x0.toUInt32 >>> ((1 : Int32).toUInt32 &&& Int32.toUInt32 31)).toInt32) &&& (1431655765 : Int32))) &&& (858993459 : Int32)) + ((((x0 - (((x0.toUInt32 >>> ((1 : Int32).toUInt32 &&& Int32.toUInt32 31)).toInt32) &&& (1431655765 : Int32))).toUInt32 >>> ((2 : Int32).toUInt32 &&& Int32.toUInt32 31)).toInt32) &&& (858993459 : Int32))) + (((((x0 - (((x0.toUInt32 >>> ((1 : Int32).toUInt32 &&& Int32.toUInt32 31)).toInt32) &&& (1431655765 : Int32))) &&& (858993459 : Int32)) + ((((x0 - (((x0.toUInt32 >>> ((1 : Int32).toUInt32 &&& Int32.toUInt32 31)).toInt32) &&& (1431655765 : Int32))).toUInt32 >>> ((2 : Int32).toUInt32 &&& Int32.toUInt32 31)).toInt32) &&& (858993459 : Int32))).toUInt32 >>> ((4 : Int32).toUInt32 &&& Int32.toUInt32 31)).toInt32)) &&& (252645135 : Int32)) + (((((((x0 - (((x0.toUInt32 >>> ((1 : Int32).toUInt32 &&& Int32.toUInt32 31)).toInt32) &&& (1431655765 : Int32))) &&& (858993459 : Int32)) + ((((x0 - (((x0.toUInt32 >>> ((1 : Int32).toUInt32 &&& Int32.toUInt32 31)).toInt32) &&& (1431655765 : Int32))).toUInt32 >>> ((2 : Int32).toUInt32 &&& Int32.toUInt32 31)).toInt32) &&& (858993459 : Int32))) + (((((x0 - (((x0.toUInt32 >>> ((1 : Int32).toUInt32 &&& Int32.toUInt32 31)).toInt32) &&& (1431655765 : Int32))) &&& (858993459 : Int32)) + ((((x0 - (((x0.toUInt32 >>> ((1 : Int32).toUInt32 &&& Int32.toUInt32 31)).toInt32) &&& (1431655765 : Int32))).toUInt32 >>> ((2 : Int32).toUInt32 &&& Int32.toUInt32 31)).toInt32) &&& (858993459 : Int32))).toUInt32 >>> ((4 : Int32).toUInt32 &&& Int32.toUInt32 31)).toInt32)) &&& (252645135 : Int32)).toUInt32 >>> ((8 : Int32).toUInt32 &&& Int32.toUInt32 31)).toInt32)))]) h d_JI_bitCount_40 rfl (by decide) rfl ?_
  refine r_iload_n h d_JI_bitCount_41 0 rfl rfl ?_
  refine r_iload_n h d_JI_bitCount_42 0 rfl rfl ?_
  refine r_bipush h d_JI_bitCount_43 kb_16 ?_
  refine r_iushr h d_JI_bitCount_45 ?_
  refine r_iadd h d_JI_bitCount_46 ?_
  refine r_istore_n (ls' := [(0, .int (((((((x0 - (((x0.toUInt32 >>> ((1 : Int32).toUInt32 &&& Int32.toUInt32 31)).toInt32) &&& (1431655765 : Int32))) &&& (858993459 : Int32)) + ((((x0 - (((x0.toUInt32 >>> ((1 : Int32).toUInt32 &&& Int32.toUInt32 31)).toInt32) &&& (1431655765 : Int32))).toUInt32 >>> ((2 : Int32).toUInt32 &&& Int32.toUInt32 31)).toInt32) &&& (858993459 : Int32))) + (((((x0 - (((x0.toUInt32 >>> ((1 : Int32).toUInt32 &&& Int32.toUInt32 31)).toInt32) &&& (1431655765 : Int32))) &&& (858993459 : Int32)) + ((((x0 - (((x0.toUInt32 >>> ((1 : Int32).toUInt32 &&& Int32.toUInt32 31)).toInt32) &&& (1431655765 : Int32))).toUInt32 >>> ((2 : Int32).toUInt32 &&& Int32.toUInt32 31)).toInt32) &&& (858993459 : Int32))).toUInt32 >>> ((4 : Int32).toUInt32 &&& Int32.toUInt32 31)).toInt32)) &&& (252645135 : Int32)) + (((((((x0 - (((x0.toUInt32 >>> ((1 : Int32).toUInt32 &&& Int32.toUInt32 31)).toInt32) &&& (1431655765 : Int32))) &&& (858993459 : Int32)) + ((((x0 - (((x0.toUInt32 >>> ((1 : Int32).toUInt32 &&& Int32.toUInt32 31)).toInt32) &&& (1431655765 : Int32))).toUInt32 >>> ((2 : Int32).toUInt32 &&& Int32.toUInt32 31)).toInt32) &&& (858993459 : Int32))) + (((((x0 - (((x0.toUInt32 >>> ((1 : Int32).toUInt32 &&& Int32.toUInt32 31)).toInt32) &&& (1431655765 : Int32))) &&& (858993459 : Int32)) + ((((x0 - (((x0.toUInt32 >>> ((1 : Int32).toUInt32 &&& Int32.toUInt32 31)).toInt32) &&& (1431655765 : Int32))).toUInt32 >>> ((2 : Int32).toUInt32 &&& Int32.toUInt32 31)).toInt32) &&& (858993459 : Int32))).toUInt32 >>> ((4 : Int32).toUInt32 &&& Int32.toUInt32 31)).toInt32)) &&& (252645135 : Int32)).toUInt32 >>> ((8 : Int32).toUInt32 &&& Int32.toUInt32 31)).toInt32)) + ((((((((x0 - (((x0.toUInt32 >>> ((1 : Int32).toUInt32 &&& Int32.toUInt32 31)).toInt32) &&& (1431655765 : Int32))) &&& (858993459 : Int32)) + ((((x0 - (((x0.toUInt32 >>> ((1 : Int32).toUInt32 &&& Int32.toUInt32 31)).toInt32) &&& (1431655765 : Int32))).toUInt32 >>> ((2 : Int32).toUInt32 &&& Int32.toUInt32 31)).toInt32) &&& (858993459 : Int32))) + (((((x0 - (((x0.toUInt32 >>> ((1 : Int32).toUInt32 &&& Int32.toUInt32 31)).toInt32) &&& (1431655765 : Int32))) &&& (858993459 : Int32)) + ((((x0 - (((x0.toUInt32 >>> ((1 : Int32).toUInt32 &&& Int32.toUInt32 31)).toInt32) &&& (1431655765 : Int32))).toUInt32 >>> ((2 : Int32).toUInt32 &&& Int32.toUInt32 31)).toInt32) &&& (858993459 : Int32))).toUInt32 >>> ((4 : Int32).toUInt32 &&& Int32.toUInt32 31)).toInt32)) &&& (252645135 : Int32)) + (((((((x0 - (((x0.toUInt32 >>> ((1 : Int32).toUInt32 &&& Int32.toUInt32 31)).toInt32) &&& (1431655765 : Int32))) &&& (858993459 : Int32)) + ((((x0 - (((x0.toUInt32 >>> ((1 : Int32).toUInt32 &&& Int32.toUInt32 31)).toInt32) &&& (1431655765 : Int32))).toUInt32 >>> ((2 : Int32).toUInt32 &&& Int32.toUInt32 31)).toInt32) &&& (858993459 : Int32))) + (((((x0 - (((x0.toUInt32 >>> ((1 : Int32).toUInt32 &&& Int32.toUInt32 31)).toInt32) &&& (1431655765 : Int32))) &&& (858993459 : Int32)) + ((((x0 - (((x0.toUInt32 >>> ((1 : Int32).toUInt32 &&& Int32.toUInt32 31)).toInt32) &&& (1431655765 : Int32))).toUInt32 >>> ((2 : Int32).toUInt32 &&& Int32.toUInt32 31)).toInt32) &&& (858993459 : Int32))).toUInt32 >>> ((4 : Int32).toUInt32 &&& Int32.toUInt32 31)).toInt32)) &&& (252645135 : Int32)).toUInt32 >>> ((8 : Int32).toUInt32 &&& Int32.toUInt32 31)).toInt32)).toUInt32 >>> ((16 : Int32).toUInt32 &&& Int32.toUInt32 31)).toInt32)))]) h d_JI_bitCount_47 rfl (by decide) rfl ?_
  refine r_iload_n h d_JI_bitCount_48 0 rfl rfl ?_
  refine r_bipush h d_JI_bitCount_49 kb_63 ?_
  refine r_iand h d_JI_bitCount_51 ?_
  exact r_ireturn h d_JI_bitCount_52.1 (Option.some.inj hf) rfl

theorem d_Spans_daysOfTwo_0 : decode c_Spans_daysOfTwo 0 = .ok (.iconst 0, 1) ∧ 0 + 1 = 1 := by decide +kernel
theorem d_Spans_daysOfTwo_1 : decode c_Spans_daysOfTwo 1 = .ok (.istore_n 2, 1) ∧ 1 + 1 = 2 := by decide +kernel
theorem d_Spans_daysOfTwo_2 : decode c_Spans_daysOfTwo 2 = .ok (.iconst 0, 1) ∧ 2 + 1 = 3 := by decide +kernel
theorem d_Spans_daysOfTwo_3 : decode c_Spans_daysOfTwo 3 = .ok (.istore_n 3, 1) ∧ 3 + 1 = 4 := by decide +kernel
theorem d_Spans_daysOfTwo_4 : decode c_Spans_daysOfTwo 4 = .ok (.iconst 0, 1) ∧ 4 + 1 = 5 := by decide +kernel
theorem d_Spans_daysOfTwo_5 : decode c_Spans_daysOfTwo 5 = .ok (.istore 4, 2) ∧ 5 + 2 = 7 := by decide +kernel
theorem d_Spans_daysOfTwo_7 : decode c_Spans_daysOfTwo 7 = .ok (.iload 4, 2) ∧ 7 + 2 = 9 := by decide +kernel
theorem d_Spans_daysOfTwo_9 : decode c_Spans_daysOfTwo 9 = .ok (.iconst 2, 1) ∧ 9 + 1 = 10 := by decide +kernel
theorem d_Spans_daysOfTwo_10 : decode c_Spans_daysOfTwo 10 = .ok (.aload_n 0, 1) ∧ 10 + 1 = 11 := by decide +kernel
theorem d_Spans_daysOfTwo_11 : decode c_Spans_daysOfTwo 11 = .ok (.getfield 30, 3) ∧ 11 + 3 = 14 := by decide +kernel
theorem d_Spans_daysOfTwo_14 : decode c_Spans_daysOfTwo 14 = .ok (.imul, 1) ∧ 14 + 1 = 15 := by decide +kernel
theorem d_Spans_daysOfTwo_15 : decode c_Spans_daysOfTwo 15 = .ok (.if_icmp .gt 47, 3) ∧ 15 + 3 = 18 ∧ ((15 : Nat) : Int) + 47 = ((62 : Nat) : Int) := by decide +kernel
theorem d_Spans_daysOfTwo_18 : decode c_Spans_daysOfTwo 18 = .ok (.iload_n 3, 1) ∧ 18 + 1 = 19 := by decide +kernel
theorem d_Spans_daysOfTwo_19 : decode c_Spans_daysOfTwo 19 = .ok (.sipush 10000, 3) ∧ 19 + 3 = 22 := by decide +kernel
theorem d_Spans_daysOfTwo_22 : decode c_Spans_daysOfTwo 22 = .ok (.if_icmp .ge 40, 3) ∧ 22 + 3 = 25 ∧ ((22 : Nat) : Int) + 40 = ((62 : Nat) : Int) := by decide +kernel
theorem d_Spans_daysOfTwo_25 : decode c_Spans_daysOfTwo 25 = .ok (.aload_n 0, 1) ∧ 25 + 1 = 26 := by decide +kernel
theorem d_Spans_daysOfTwo_26 : decode c_Spans_daysOfTwo 26 = .ok (.iload_n 1, 1) ∧ 26 + 1 = 27 := by decide +kernel
theorem d_Spans_daysOfTwo_27 : decode c_Spans_daysOfTwo 27 = .ok (.iload_n 3, 1) ∧ 27 + 1 = 28 := by decide +kernel
theorem d_Spans_daysOfTwo_28 : decode c_Spans_daysOfTwo 28 = .ok (.invokevirtual 42, 3) ∧ 28 + 3 = 31 := by decide +kernel
theorem d_Spans_daysOfTwo_31 : decode c_Spans_daysOfTwo 31 = .ok (.istore 5, 2) ∧ 31 + 2 = 33 := by decide +kernel
theorem d_Spans_daysOfTwo_33 : decode c_Spans_daysOfTwo 33 = .ok (.aload_n 0, 1) ∧ 33 + 1 = 34 := by decide +kernel
theorem d_Spans_daysOfTwo_34 : decode c_Spans_daysOfTwo 34 = .ok (.iload_n 1, 1) ∧ 34 + 1 = 35 := by decide +kernel
theorem d_Spans_daysOfTwo_35 : decode c_Spans_daysOfTwo 35 = .ok (.iload_n 3, 1) ∧ 35 + 1 = 36 := by decide +kernel
theorem d_Spans_daysOfTwo_36 : decode c_Spans_daysOfTwo 36 = .ok (.invokevirtual 45, 3) ∧ 36 + 3 = 39 := by decide +kernel
theorem d_Spans_daysOfTwo_39 : decode c_Spans_daysOfTwo 39 = .ok (.invokestatic 48, 3) ∧ 39 + 3 = 42 := by decide +kernel
theorem d_Spans_daysOfTwo_42 : decode c_Spans_daysOfTwo 42 = .ok (.iconst 2, 1) ∧ 42 + 1 = 43 := by decide +kernel
theorem d_Spans_daysOfTwo_43 : decode c_Spans_daysOfTwo 43 = .ok (.if_icmp .lt 10, 3) ∧ 43 + 3 = 46 ∧ ((43 : Nat) : Int) + 10 = ((53 : Nat) : Int) := by decide +kernel
theorem d_Spans_daysOfTwo_46 : decode c_Spans_daysOfTwo 46 = .ok (.iload_n 2, 1) ∧ 46 + 1 = 47 := by decide +kernel
theorem d_Spans_daysOfTwo_47 : decode c_Spans_daysOfTwo 47 = .ok (.iload 5, 2) ∧ 47 + 2 = 49 := by decide +kernel
theorem d_Spans_daysOfTwo_49 : decode c_Spans_daysOfTwo 49 = .ok (.iload_n 3, 1) ∧ 49 + 1 = 50 := by decide +kernel
theorem d_Spans_daysOfTwo_50 : decode c_Spans_daysOfTwo 50 = .ok (.isub, 1) ∧ 50 + 1 = 51 := by decide +kernel
theorem d_Spans_daysOfTwo_51 : decode c_Spans_daysOfTwo 51 = .ok (.iadd, 1) ∧ 51 + 1 = 52 := by decide +kernel
theorem d_Spans_daysOfTwo_52 : decode c_Spans_daysOfTwo 52 = .ok (.istore_n 2, 1) ∧ 52 + 1 = 53 := by decide +kernel
theorem d_Spans_daysOfTwo_53 : decode c_Spans_daysOfTwo 53 = .ok (.iload 5, 2) ∧ 53 + 2 = 55 := by decide +kernel
theorem d_Spans_daysOfTwo_55 : decode c_Spans_daysOfTwo 55 = .ok (.istore_n 3, 1) ∧ 55 + 1 = 56 := by decide +kernel
theorem d_Spans_daysOfTwo_56 : decode c_Spans_daysOfTwo 56 = .ok (.iinc 4 1, 3) ∧ 56 + 3 = 59 := by decide +kernel
theorem d_Spans_daysOfTwo_59 : decode c_Spans_daysOfTwo 59 = .ok (.goto (-52), 3) ∧ (59 : Int) + (-52) = (7 : Int) := by decide +kernel
theorem d_Spans_daysOfTwo_62 : decode c_Spans_daysOfTwo 62 = .ok (.iload_n 2, 1) ∧ 62 + 1 = 63 := by decide +kernel
theorem d_Spans_daysOfTwo_63 : decode c_Spans_daysOfTwo 63 = .ok (.ireturn, 1) ∧ 63 + 1 = 64 := by decide +kernel
set_option maxHeartbeats 4000000 in
theorem w_Spans_daysOfTwo_rights_L7 {Z : Sy} {Γ : Nat → List (Nat × Value) → List Value → St → Prop} {res : Int32} {x1 : Int32} {σ : St} (h : IsG YC Z R_Spans c_Spans_daysOfTwo 6 3 (some .int) (some (.int res)) σ Γ) : ∀ (n : Nat) (x2 : Int32) (x3 : Int32) (x4 : Int32), Spans_daysOfTwo_rights_L7 x1 σ n x2 x3 x4 = some res → Γ 7 [(0, .ref (ya Z 16)), (1, .int x1), (2, .int x2), (3, .int x3), (4, .int x4)] [] σ := by
  intro n
  induction n with
  | zero => intro x2 x3 x4 hf; exact absurd hf (by simp [Spans_daysOfTwo_rights_L7])
  | succ n ih =>
    intro x2 x3 x4 hf
    rw [Spans_daysOfTwo_rights_L7] at hf
    refine r_iload h d_Spans_daysOfTwo_7 4 rfl ?_
    refine r_iconst h d_Spans_daysOfTwo_9 ki_2 ?_
    refine r_aload_n h d_Spans_daysOfTwo_10 0 rfl rfl ?_
    refine r_getI h fd_YC_16_4 cf_Spans fl_Spans_30 d_Spans_daysOfTwo_11 ?_
    refine r_imul h d_Spans_daysOfTwo_14 ?_
    refine r_icmp_gt h d_Spans_daysOfTwo_15 hf (fun hf => ?_) (fun hf => ?_)
    · refine r_iload_n h d_Spans_daysOfTwo_62 2 rfl rfl ?_
      exact r_ireturn h d_Spans_daysOfTwo_63.1 (Option.some.inj hf) rfl
    · refine r_iload_n h d_Spans_daysOfTwo_18 3 rfl rfl ?_
      refine r_sipush h d_Spans_daysOfTwo_19 ks_10000 ?_
      refine r_icmp_ge h d_Spans_daysOfTwo_22 hf (fun hf => ?_) (fun hf => ?_)
      · refine r_iload_n h d_Spans_daysOfTwo_62 2 rfl rfl ?_
        exact r_ireturn h d_Spans_daysOfTwo_63.1 (Option.some.inj hf) rfl
      · refine r_aload_n h d_Spans_daysOfTwo_25 0 rfl rfl ?_
        refine r_iload_n h d_Spans_daysOfTwo_26 1 rfl rfl ?_
        refine r_iload_n h d_Spans_daysOfTwo_27 3 rfl rfl ?_
        obtain ⟨r28, e28, hf⟩ := q_bind hf
        refine r_callV (As := [.int x1, .int x3]) (rest := []) h sh_YC_16 lk_Spans_42 vk_Spans_42 d_Spans_daysOfTwo_28 (by decide) rfl rfl (Nat.le_of_ble_eq_true rfl) (m_Spans_nextTurn_rights e28) ?_
        refine r_istore (ls' := [(5, .int r28), (0, .ref (ya Z 16)), (1, .int x1), (2, .int x2), (3, .int x3), (4, .int x4)]) h d_Spans_daysOfTwo_31 (by decide) rfl ?_
        refine r_aload_n h d_Spans_daysOfTwo_33 1 rfl rfl ?_
        refine r_iload_n h d_Spans_daysOfTwo_34 2 rfl rfl ?_
        refine r_iload_n h d_Spans_daysOfTwo_35 4 rfl rfl ?_
        obtain ⟨r36, e36, hf⟩ := q_bind hf
        refine r_callV (As := [.int x1, .int x3]) (rest := []) h sh_YC_16 lk_Spans_45 vk_Spans_45 d_Spans_daysOfTwo_36 (by decide) rfl rfl (Nat.le_of_ble_eq_true rfl) (m_Spans_whosOn_rights e36) ?_
        obtain ⟨r39, e39, hf⟩ := q_bind hf
        refine r_callS (As := [.int r36]) (rest := []) h lk_Spans_48 sk_Spans_48 d_Spans_daysOfTwo_39 (by decide) rfl rfl (Nat.le_of_ble_eq_true rfl) (m_JI_bitCount e39) ?_
        refine r_iconst h d_Spans_daysOfTwo_42 ki_2 ?_
        refine r_icmp_lt h d_Spans_daysOfTwo_43 hf (fun hf => ?_) (fun hf => ?_)
        · refine r_iload h d_Spans_daysOfTwo_53 0 rfl ?_
          refine r_istore_n (ls' := [(3, .int r28), (5, .int r28), (0, .ref (ya Z 16)), (1, .int x1), (2, .int x2), (4, .int x4)]) h d_Spans_daysOfTwo_55 rfl (by decide) rfl ?_
          refine r_iinc (ls' := [(4, .int (x4 + (1 : Int32))), (3, .int r28), (5, .int r28), (0, .ref (ya Z 16)), (1, .int x1), (2, .int x2)]) h d_Spans_daysOfTwo_56 5 rfl ki_1 (by decide) rfl ?_
          refine r_goto h d_Spans_daysOfTwo_59 ?_
          refine r_sub h [3, 4, 5, 1, 0] rfl ?_
          exact ih _ _ _ hf
        · refine r_iload_n h d_Spans_daysOfTwo_46 3 rfl rfl ?_
          refine r_iload h d_Spans_daysOfTwo_47 0 rfl ?_
          refine r_iload_n h d_Spans_daysOfTwo_49 4 rfl rfl ?_
          refine r_isub h d_Spans_daysOfTwo_50 ?_
          refine r_iadd h d_Spans_daysOfTwo_51 ?_
          refine r_istore_n (ls' := [(2, .int (x2 + (r28 - x3))), (5, .int r28), (0, .ref (ya Z 16)), (1, .int x1), (3, .int x3), (4, .int x4)]) h d_Spans_daysOfTwo_52 rfl (by decide) rfl ?_
          refine r_iload h d_Spans_daysOfTwo_53 1 rfl ?_
          refine r_istore_n (ls' := [(3, .int r28), (2, .int (x2 + (r28 - x3))), (5, .int r28), (0, .ref (ya Z 16)), (1, .int x1), (4, .int x4)]) h d_Spans_daysOfTwo_55 rfl (by decide) rfl ?_
          refine r_iinc (ls' := [(4, .int (x4 + (1 : Int32))), (3, .int r28), (2, .int (x2 + (r28 - x3))), (5, .int r28), (0, .ref (ya Z 16)), (1, .int x1)]) h d_Spans_daysOfTwo_56 5 rfl ki_1 (by decide) rfl ?_
          refine r_goto h d_Spans_daysOfTwo_59 ?_
          refine r_sub h [4, 5, 2, 1, 0] rfl ?_
          exact ih _ _ _ hf

set_option maxHeartbeats 4000000 in
theorem m_Spans_daysOfTwo_rights {Z : Sy} {σ : St} {res : Int32} {x1 : Int32} (hf : Spans_daysOfTwo_rights x1 σ = some res) : Ct YC Z y_Spans_daysOfTwo c_Spans_daysOfTwo 6 (some .int) 3 [.ref (ya Z 16), .int x1] σ (some (.int res)) σ := by
  refine Ct.of pn_Spans (Nat.le_of_ble_eq_true rfl) rfl (fun Γ h => ?_)
  have h : IsG YC Z R_Spans c_Spans_daysOfTwo 6 3 (some .int) (some (.int res)) σ Γ := h
  unfold Spans_daysOfTwo_rights at hf
  refine r_iconst h d_Spans_daysOfTwo_0 ki_0 ?_
  refine r_istore_n (ls' := [(2, .int (0 : Int32)), (0, .ref (ya Z 16)), (1, .int x1)]) h d_Spans_daysOfTwo_1 rfl (by decide) rfl ?_
  refine r_iconst h d_Spans_daysOfTwo_2 ki_0 ?_
  refine r_istore_n (ls' := [(3, .int (0 : Int32)), (2, .int (0 : Int32)), (0, .ref (ya Z 16)), (1, .int x1)]) h d_Spans_daysOfTwo_3 rfl (by decide) rfl ?_
  refine r_iconst h d_Spans_daysOfTwo_4 ki_0 ?_
  refine r_istore (ls' := [(4, .int (0 : Int32)), (3, .int (0 : Int32)), (2, .int (0 : Int32)), (0, .ref (ya Z 16)), (1, .int x1)]) h d_Spans_daysOfTwo_5 (by decide) rfl ?_
  refine r_sub h [3, 4, 2, 1, 0] rfl ?_
  exact w_Spans_daysOfTwo_rights_L7 h _ _ _ _ hf

theorem d_P_two_0 : decode c_P_two 0 = .ok (.aload_n 0, 1) ∧ 0 + 1 = 1 := by decide +kernel
theorem d_P_two_1 : decode c_P_two 1 = .ok (.getfield 78, 3) ∧ 1 + 3 = 4 := by decide +kernel
theorem d_P_two_4 : decode c_P_two 4 = .ok (.iload_n 1, 1) ∧ 4 + 1 = 5 := by decide +kernel
theorem d_P_two_5 : decode c_P_two 5 = .ok (.invokevirtual 349, 3) ∧ 5 + 3 = 8 := by decide +kernel
theorem d_P_two_8 : decode c_P_two 8 = .ok (.ifCond .ne 5, 3) ∧ 8 + 3 = 11 ∧ ((8 : Nat) : Int) + 5 = ((13 : Nat) : Int) := by decide +kernel
theorem d_P_two_11 : decode c_P_two 11 = .ok (.iconst (-1), 1) ∧ 11 + 1 = 12 := by decide +kernel
theorem d_P_two_12 : decode c_P_two 12 = .ok (.ireturn, 1) ∧ 12 + 1 = 13 := by decide +kernel
theorem d_P_two_13 : decode c_P_two 13 = .ok (.aload_n 0, 1) ∧ 13 + 1 = 14 := by decide +kernel
theorem d_P_two_14 : decode c_P_two 14 = .ok (.getfield 30, 3) ∧ 14 + 3 = 17 := by decide +kernel
theorem d_P_two_17 : decode c_P_two 17 = .ok (.iload_n 1, 1) ∧ 17 + 1 = 18 := by decide +kernel
theorem d_P_two_18 : decode c_P_two 18 = .ok (.invokevirtual 353, 3) ∧ 18 + 3 = 21 := by decide +kernel
theorem d_P_two_21 : decode c_P_two 21 = .ok (.ireturn, 1) ∧ 21 + 1 = 22 := by decide +kernel
set_option maxHeartbeats 4000000 in
theorem m_P_two {Z : Sy} {σ : St} {res : Int32} {x1 : Int32} (hf : P_two x1 σ = some res) : Ct YC Z y_P_two c_P_two 2 (some .int) 4 [.ref (ya Z 0), .int x1] σ (some (.int res)) σ := by
  refine Ct.of pn_P (Nat.le_of_ble_eq_true rfl) rfl (fun Γ h => ?_)
  have h : IsG YC Z R_P c_P_two 2 4 (some .int) (some (.int res)) σ Γ := h
  unfold P_two at hf
  refine r_aload_n h d_P_two_0 0 rfl rfl ?_
  refine r_getR h fd_YC_0_10 cf_P fl_P_78 d_P_two_1 ?_
  refine r_iload_n h d_P_two_4 1 rfl rfl ?_
  obtain ⟨r5, e5, hf⟩ := q_bind hf
  refine r_callV (As := [.int x1]) (rest := []) h sh_YC_64 lk_P_349 vk_P_349 d_P_two_5 (by decide) rfl rfl (Nat.le_of_ble_eq_true rfl) (m_Rounds_has e5) ?_
  refine r_bif_ne h d_P_two_8 hf (fun hf => ?_) (fun hf => ?_)
  · refine r_aload_n h d_P_two_13 0 rfl rfl ?_
    refine r_getR h fd_YC_0_3 cf_P fl_P_30 d_P_two_14 ?_
    refine r_iload_n h d_P_two_17 1 rfl rfl ?_
    obtain ⟨r18, e18, hf⟩ := q_bind hf
    refine r_callV (As := [.int x1]) (rest := []) h sh_YC_16 lk_P_353 vk_P_353 d_P_two_18 (by decide) rfl rfl (Nat.le_of_ble_eq_true rfl) (m_Spans_daysOfTwo_rights e18) ?_
    exact r_ireturn h d_P_two_21.1 (Option.some.inj hf) rfl
  · refine r_iconst h d_P_two_11 ki_m1 ?_
    exact r_ireturn h d_P_two_12.1 (Option.some.inj hf) rfl

theorem d_Rounds_stopAt_0 : decode c_Rounds_stopAt 0 = .ok (.aload_n 0, 1) ∧ 0 + 1 = 1 := by decide +kernel
theorem d_Rounds_stopAt_1 : decode c_Rounds_stopAt 1 = .ok (.getfield 15, 3) ∧ 1 + 3 = 4 := by decide +kernel
theorem d_Rounds_stopAt_4 : decode c_Rounds_stopAt 4 = .ok (.iload_n 1, 1) ∧ 4 + 1 = 5 := by decide +kernel
theorem d_Rounds_stopAt_5 : decode c_Rounds_stopAt 5 = .ok (.bipush 8, 2) ∧ 5 + 2 = 7 := by decide +kernel
theorem d_Rounds_stopAt_7 : decode c_Rounds_stopAt 7 = .ok (.imul, 1) ∧ 7 + 1 = 8 := by decide +kernel
theorem d_Rounds_stopAt_8 : decode c_Rounds_stopAt 8 = .ok (.iload_n 2, 1) ∧ 8 + 1 = 9 := by decide +kernel
theorem d_Rounds_stopAt_9 : decode c_Rounds_stopAt 9 = .ok (.iadd, 1) ∧ 9 + 1 = 10 := by decide +kernel
theorem d_Rounds_stopAt_10 : decode c_Rounds_stopAt 10 = .ok (.iaload, 1) ∧ 10 + 1 = 11 := by decide +kernel
theorem d_Rounds_stopAt_11 : decode c_Rounds_stopAt 11 = .ok (.ireturn, 1) ∧ 11 + 1 = 12 := by decide +kernel
set_option maxHeartbeats 4000000 in
theorem m_Rounds_stopAt {Z : Sy} {σ : St} {res : Int32} {x1 : Int32} {x2 : Int32} (hf : Rounds_stopAt x1 x2 σ = some res) : Ct YC Z y_Rounds_stopAt c_Rounds_stopAt 3 (some .int) 1 [.ref (ya Z 64), .int x1, .int x2] σ (some (.int res)) σ := by
  refine Ct.of pn_Rounds (Nat.le_of_ble_eq_true rfl) rfl (fun Γ h => ?_)
  have h : IsG YC Z R_Rounds c_Rounds_stopAt 3 1 (some .int) (some (.int res)) σ Γ := h
  unfold Rounds_stopAt at hf
  refine r_aload_n h d_Rounds_stopAt_0 0 rfl rfl ?_
  refine r_getR h fd_YC_64_1 cf_Rounds fl_Rounds_15 d_Rounds_stopAt_1 ?_
  refine r_iload_n h d_Rounds_stopAt_4 1 rfl rfl ?_
  refine r_bipush h d_Rounds_stopAt_5 kb_8 ?_
  refine r_imul h d_Rounds_stopAt_7 ?_
  refine r_iload_n h d_Rounds_stopAt_8 2 rfl rfl ?_
  refine r_iadd h d_Rounds_stopAt_9 ?_
  refine r_iald h sh_YC_66 d_Rounds_stopAt_10 hf (fun hf => ?_)
  exact r_ireturn h d_Rounds_stopAt_11.1 (Option.some.inj hf) rfl

theorem d_Spans_firstWithin_0 : decode c_Spans_firstWithin 0 = .ok (.bipush (-9), 2) ∧ 0 + 2 = 2 := by decide +kernel
theorem d_Spans_firstWithin_2 : decode c_Spans_firstWithin 2 = .ok (.istore 5, 2) ∧ 2 + 2 = 4 := by decide +kernel
theorem d_Spans_firstWithin_4 : decode c_Spans_firstWithin 4 = .ok (.iconst 0, 1) ∧ 4 + 1 = 5 := by decide +kernel
theorem d_Spans_firstWithin_5 : decode c_Spans_firstWithin 5 = .ok (.istore 6, 2) ∧ 5 + 2 = 7 := by decide +kernel
theorem d_Spans_firstWithin_7 : decode c_Spans_firstWithin 7 = .ok (.iload 6, 2) ∧ 7 + 2 = 9 := by decide +kernel
theorem d_Spans_firstWithin_9 : decode c_Spans_firstWithin 9 = .ok (.aload_n 0, 1) ∧ 9 + 1 = 10 := by decide +kernel
theorem d_Spans_firstWithin_10 : decode c_Spans_firstWithin 10 = .ok (.getfield 30, 3) ∧ 10 + 3 = 13 := by decide +kernel
theorem d_Spans_firstWithin_13 : decode c_Spans_firstWithin 13 = .ok (.if_icmp .ge 85, 3) ∧ 13 + 3 = 16 ∧ ((13 : Nat) : Int) + 85 = ((98 : Nat) : Int) := by decide +kernel
theorem d_Spans_firstWithin_16 : decode c_Spans_firstWithin 16 = .ok (.aload_n 0, 1) ∧ 16 + 1 = 17 := by decide +kernel
theorem d_Spans_firstWithin_17 : decode c_Spans_firstWithin 17 = .ok (.getfield 15, 3) ∧ 17 + 3 = 20 := by decide +kernel
theorem d_Spans_firstWithin_20 : decode c_Spans_firstWithin 20 = .ok (.iload 6, 2) ∧ 20 + 2 = 22 := by decide +kernel
theorem d_Spans_firstWithin_22 : decode c_Spans_firstWithin 22 = .ok (.iaload, 1) ∧ 22 + 1 = 23 := by decide +kernel
theorem d_Spans_firstWithin_23 : decode c_Spans_firstWithin 23 = .ok (.iload_n 1, 1) ∧ 23 + 1 = 24 := by decide +kernel
theorem d_Spans_firstWithin_24 : decode c_Spans_firstWithin 24 = .ok (.if_icmp .ne 68, 3) ∧ 24 + 3 = 27 ∧ ((24 : Nat) : Int) + 68 = ((92 : Nat) : Int) := by decide +kernel
theorem d_Spans_firstWithin_27 : decode c_Spans_firstWithin 27 = .ok (.aload_n 0, 1) ∧ 27 + 1 = 28 := by decide +kernel
theorem d_Spans_firstWithin_28 : decode c_Spans_firstWithin 28 = .ok (.getfield 21, 3) ∧ 28 + 3 = 31 := by decide +kernel
theorem d_Spans_firstWithin_31 : decode c_Spans_firstWithin 31 = .ok (.iload 6, 2) ∧ 31 + 2 = 33 := by decide +kernel
theorem d_Spans_firstWithin_33 : decode c_Spans_firstWithin 33 = .ok (.iaload, 1) ∧ 33 + 1 = 34 := by decide +kernel
theorem d_Spans_firstWithin_34 : decode c_Spans_firstWithin 34 = .ok (.iload_n 2, 1) ∧ 34 + 1 = 35 := by decide +kernel
theorem d_Spans_firstWithin_35 : decode c_Spans_firstWithin 35 = .ok (.if_icmp .ne 57, 3) ∧ 35 + 3 = 38 ∧ ((35 : Nat) : Int) + 57 = ((92 : Nat) : Int) := by decide +kernel
theorem d_Spans_firstWithin_38 : decode c_Spans_firstWithin 38 = .ok (.aload_n 0, 1) ∧ 38 + 1 = 39 := by decide +kernel
theorem d_Spans_firstWithin_39 : decode c_Spans_firstWithin 39 = .ok (.getfield 24, 3) ∧ 39 + 3 = 42 := by decide +kernel
theorem d_Spans_firstWithin_42 : decode c_Spans_firstWithin 42 = .ok (.iload 6, 2) ∧ 42 + 2 = 44 := by decide +kernel
theorem d_Spans_firstWithin_44 : decode c_Spans_firstWithin 44 = .ok (.iaload, 1) ∧ 44 + 1 = 45 := by decide +kernel
theorem d_Spans_firstWithin_45 : decode c_Spans_firstWithin 45 = .ok (.iload_n 3, 1) ∧ 45 + 1 = 46 := by decide +kernel
theorem d_Spans_firstWithin_46 : decode c_Spans_firstWithin 46 = .ok (.if_icmp .lt 46, 3) ∧ 46 + 3 = 49 ∧ ((46 : Nat) : Int) + 46 = ((92 : Nat) : Int) := by decide +kernel
theorem d_Spans_firstWithin_49 : decode c_Spans_firstWithin 49 = .ok (.aload_n 0, 1) ∧ 49 + 1 = 50 := by decide +kernel
theorem d_Spans_firstWithin_50 : decode c_Spans_firstWithin 50 = .ok (.getfield 27, 3) ∧ 50 + 3 = 53 := by decide +kernel
theorem d_Spans_firstWithin_53 : decode c_Spans_firstWithin 53 = .ok (.iload 6, 2) ∧ 53 + 2 = 55 := by decide +kernel
theorem d_Spans_firstWithin_55 : decode c_Spans_firstWithin 55 = .ok (.iaload, 1) ∧ 55 + 1 = 56 := by decide +kernel
theorem d_Spans_firstWithin_56 : decode c_Spans_firstWithin 56 = .ok (.iload 4, 2) ∧ 56 + 2 = 58 := by decide +kernel
theorem d_Spans_firstWithin_58 : decode c_Spans_firstWithin 58 = .ok (.if_icmp .le 6, 3) ∧ 58 + 3 = 61 ∧ ((58 : Nat) : Int) + 6 = ((64 : Nat) : Int) := by decide +kernel
theorem d_Spans_firstWithin_61 : decode c_Spans_firstWithin 61 = .ok (.goto 31, 3) ∧ (61 : Int) + 31 = (92 : Int) := by decide +kernel
theorem d_Spans_firstWithin_64 : decode c_Spans_firstWithin 64 = .ok (.iload 5, 2) ∧ 64 + 2 = 66 := by decide +kernel
theorem d_Spans_firstWithin_66 : decode c_Spans_firstWithin 66 = .ok (.bipush (-9), 2) ∧ 66 + 2 = 68 := by decide +kernel
theorem d_Spans_firstWithin_68 : decode c_Spans_firstWithin 68 = .ok (.if_icmp .eq 15, 3) ∧ 68 + 3 = 71 ∧ ((68 : Nat) : Int) + 15 = ((83 : Nat) : Int) := by decide +kernel
theorem d_Spans_firstWithin_71 : decode c_Spans_firstWithin 71 = .ok (.aload_n 0, 1) ∧ 71 + 1 = 72 := by decide +kernel
theorem d_Spans_firstWithin_72 : decode c_Spans_firstWithin 72 = .ok (.getfield 24, 3) ∧ 72 + 3 = 75 := by decide +kernel
theorem d_Spans_firstWithin_75 : decode c_Spans_firstWithin 75 = .ok (.iload 6, 2) ∧ 75 + 2 = 77 := by decide +kernel
theorem d_Spans_firstWithin_77 : decode c_Spans_firstWithin 77 = .ok (.iaload, 1) ∧ 77 + 1 = 78 := by decide +kernel
theorem d_Spans_firstWithin_78 : decode c_Spans_firstWithin 78 = .ok (.iload 5, 2) ∧ 78 + 2 = 80 := by decide +kernel
theorem d_Spans_firstWithin_80 : decode c_Spans_firstWithin 80 = .ok (.if_icmp .ge 12, 3) ∧ 80 + 3 = 83 ∧ ((80 : Nat) : Int) + 12 = ((92 : Nat) : Int) := by decide +kernel
theorem d_Spans_firstWithin_83 : decode c_Spans_firstWithin 83 = .ok (.aload_n 0, 1) ∧ 83 + 1 = 84 := by decide +kernel
theorem d_Spans_firstWithin_84 : decode c_Spans_firstWithin 84 = .ok (.getfield 24, 3) ∧ 84 + 3 = 87 := by decide +kernel
theorem d_Spans_firstWithin_87 : decode c_Spans_firstWithin 87 = .ok (.iload 6, 2) ∧ 87 + 2 = 89 := by decide +kernel
theorem d_Spans_firstWithin_89 : decode c_Spans_firstWithin 89 = .ok (.iaload, 1) ∧ 89 + 1 = 90 := by decide +kernel
theorem d_Spans_firstWithin_90 : decode c_Spans_firstWithin 90 = .ok (.istore 5, 2) ∧ 90 + 2 = 92 := by decide +kernel
theorem d_Spans_firstWithin_92 : decode c_Spans_firstWithin 92 = .ok (.iinc 6 1, 3) ∧ 92 + 3 = 95 := by decide +kernel
theorem d_Spans_firstWithin_95 : decode c_Spans_firstWithin 95 = .ok (.goto (-88), 3) ∧ (95 : Int) + (-88) = (7 : Int) := by decide +kernel
theorem d_Spans_firstWithin_98 : decode c_Spans_firstWithin 98 = .ok (.iload 5, 2) ∧ 98 + 2 = 100 := by decide +kernel
theorem d_Spans_firstWithin_100 : decode c_Spans_firstWithin 100 = .ok (.ireturn, 1) ∧ 100 + 1 = 101 := by decide +kernel
set_option maxHeartbeats 4000000 in
theorem w_Spans_firstWithin_stays_L7 {Z : Sy} {Γ : Nat → List (Nat × Value) → List Value → St → Prop} {res : Int32} {x1 : Int32} {x2 : Int32} {x3 : Int32} {x4 : Int32} {σ : St} (h : IsG YC Z R_Spans c_Spans_firstWithin 7 1 (some .int) (some (.int res)) σ Γ) : ∀ (n : Nat) (x5 : Int32) (x6 : Int32), Spans_firstWithin_stays_L7 x1 x2 x3 x4 σ n x5 x6 = some res → Γ 7 [(0, .ref (ya Z 6)), (1, .int x1), (2, .int x2), (3, .int x3), (4, .int x4), (5, .int x5), (6, .int x6)] [] σ := by
  intro n
  induction n with
  | zero => intro x5 x6 hf; exact absurd hf (by simp [Spans_firstWithin_stays_L7])
  | succ n ih =>
    intro x5 x6 hf
    rw [Spans_firstWithin_stays_L7] at hf
    refine r_iload h d_Spans_firstWithin_7 6 rfl ?_
    refine r_aload_n h d_Spans_firstWithin_9 0 rfl rfl ?_
    refine r_getI h fd_YC_6_4 cf_Spans fl_Spans_30 d_Spans_firstWithin_10 ?_
    refine r_icmp_ge h d_Spans_firstWithin_13 hf (fun hf => ?_) (fun hf => ?_)
    · refine r_iload h d_Spans_firstWithin_98 5 rfl ?_
      exact r_ireturn h d_Spans_firstWithin_100.1 (Option.some.inj hf) rfl
    · refine r_aload_n h d_Spans_firstWithin_16 0 rfl rfl ?_
      refine r_getR h fd_YC_6_0 cf_Spans fl_Spans_15 d_Spans_firstWithin_17 ?_
      refine r_iload h d_Spans_firstWithin_20 6 rfl ?_
      refine r_iald h sh_YC_7 d_Spans_firstWithin_22 hf (fun hf => ?_)
      refine r_iload_n h d_Spans_firstWithin_23 1 rfl rfl ?_
      refine r_icmp_ne h d_Spans_firstWithin_24 hf (fun hf => ?_) (fun hf => ?_)
      · refine r_iinc (ls' := [(6, .int (x6 + (1 : Int32))), (0, .ref (ya Z 6)), (1, .int x1), (2, .int x2), (3, .int x3), (4, .int x4), (5, .int x5)]) h d_Spans_firstWithin_92 6 rfl ki_1 (by decide) rfl ?_
        refine r_goto h d_Spans_firstWithin_95 ?_
        refine r_sub h [1, 2, 3, 4, 5, 6, 0] rfl ?_
        exact ih _ _ hf
      · refine r_aload_n h d_Spans_firstWithin_27 0 rfl rfl ?_
        refine r_getR h fd_YC_6_1 cf_Spans fl_Spans_21 d_Spans_firstWithin_28 ?_
        refine r_iload h d_Spans_firstWithin_31 6 rfl ?_
        refine r_iald h sh_YC_8 d_Spans_firstWithin_33 hf (fun hf => ?_)
        refine r_iload_n h d_Spans_firstWithin_34 2 rfl rfl ?_
        refine r_icmp_ne h d_Spans_firstWithin_35 hf (fun hf => ?_) (fun hf => ?_)
        · refine r_iinc (ls' := [(6, .int (x6 + (1 : Int32))), (0, .ref (ya Z 6)), (1, .int x1), (2, .int x2), (3, .int x3), (4, .int x4), (5, .int x5)]) h d_Spans_firstWithin_92 6 rfl ki_1 (by decide) rfl ?_
          refine r_goto h d_Spans_firstWithin_95 ?_
          refine r_sub h [1, 2, 3, 4, 5, 6, 0] rfl ?_
          exact ih _ _ hf
        · refine r_aload_n h d_Spans_firstWithin_38 0 rfl rfl ?_
          refine r_getR h fd_YC_6_2 cf_Spans fl_Spans_24 d_Spans_firstWithin_39 ?_
          refine r_iload h d_Spans_firstWithin_42 6 rfl ?_
          refine r_iald h sh_YC_9 d_Spans_firstWithin_44 hf (fun hf => ?_)
          refine r_iload_n h d_Spans_firstWithin_45 3 rfl rfl ?_
          refine r_icmp_lt h d_Spans_firstWithin_46 hf (fun hf => ?_) (fun hf => ?_)
          · refine r_iinc (ls' := [(6, .int (x6 + (1 : Int32))), (0, .ref (ya Z 6)), (1, .int x1), (2, .int x2), (3, .int x3), (4, .int x4), (5, .int x5)]) h d_Spans_firstWithin_92 6 rfl ki_1 (by decide) rfl ?_
            refine r_goto h d_Spans_firstWithin_95 ?_
            refine r_sub h [1, 2, 3, 4, 5, 6, 0] rfl ?_
            exact ih _ _ hf
          · refine r_aload_n h d_Spans_firstWithin_49 0 rfl rfl ?_
            refine r_getR h fd_YC_6_3 cf_Spans fl_Spans_27 d_Spans_firstWithin_50 ?_
            refine r_iload h d_Spans_firstWithin_53 6 rfl ?_
            refine r_iald h sh_YC_10 d_Spans_firstWithin_55 hf (fun hf => ?_)
            refine r_iload h d_Spans_firstWithin_56 4 rfl ?_
            refine r_icmp_le h d_Spans_firstWithin_58 hf (fun hf => ?_) (fun hf => ?_)
            · refine r_iload h d_Spans_firstWithin_64 5 rfl ?_
              refine r_bipush h d_Spans_firstWithin_66 kb_m9 ?_
              refine r_icmp_eq h d_Spans_firstWithin_68 hf (fun hf => ?_) (fun hf => ?_)
              · refine r_aload_n h d_Spans_firstWithin_83 0 rfl rfl ?_
                refine r_getR h fd_YC_6_2 cf_Spans fl_Spans_24 d_Spans_firstWithin_84 ?_
                refine r_iload h d_Spans_firstWithin_87 6 rfl ?_
                refine r_iald h sh_YC_9 d_Spans_firstWithin_89 hf (fun hf => ?_)
                refine r_istore (ls' := [(5, .int (σ.1 9 (Int32.toNatClampNeg x6))), (0, .ref (ya Z 6)), (1, .int x1), (2, .int x2), (3, .int x3), (4, .int x4), (6, .int x6)]) h d_Spans_firstWithin_90 (by decide) rfl ?_
                refine r_iinc (ls' := [(6, .int (x6 + (1 : Int32))), (5, .int (σ.1 9 (Int32.toNatClampNeg x6))), (0, .ref (ya Z 6)), (1, .int x1), (2, .int x2), (3, .int x3), (4, .int x4)]) h d_Spans_firstWithin_92 6 rfl ki_1 (by decide) rfl ?_
                refine r_goto h d_Spans_firstWithin_95 ?_
                refine r_sub h [2, 3, 4, 5, 6, 1, 0] rfl ?_
                exact ih _ _ hf
              · refine r_aload_n h d_Spans_firstWithin_71 0 rfl rfl ?_
                refine r_getR h fd_YC_6_2 cf_Spans fl_Spans_24 d_Spans_firstWithin_72 ?_
                refine r_iload h d_Spans_firstWithin_75 6 rfl ?_
                refine r_iald h sh_YC_9 d_Spans_firstWithin_77 hf (fun hf => ?_)
                refine r_iload h d_Spans_firstWithin_78 5 rfl ?_
                refine r_icmp_ge h d_Spans_firstWithin_80 hf (fun hf => ?_) (fun hf => ?_)
                · refine r_iinc (ls' := [(6, .int (x6 + (1 : Int32))), (0, .ref (ya Z 6)), (1, .int x1), (2, .int x2), (3, .int x3), (4, .int x4), (5, .int x5)]) h d_Spans_firstWithin_92 6 rfl ki_1 (by decide) rfl ?_
                  refine r_goto h d_Spans_firstWithin_95 ?_
                  refine r_sub h [1, 2, 3, 4, 5, 6, 0] rfl ?_
                  exact ih _ _ hf
                · refine r_aload_n h d_Spans_firstWithin_83 0 rfl rfl ?_
                  refine r_getR h fd_YC_6_2 cf_Spans fl_Spans_24 d_Spans_firstWithin_84 ?_
                  refine r_iload h d_Spans_firstWithin_87 6 rfl ?_
                  refine r_iald h sh_YC_9 d_Spans_firstWithin_89 hf (fun hf => ?_)
                  refine r_istore (ls' := [(5, .int (σ.1 9 (Int32.toNatClampNeg x6))), (0, .ref (ya Z 6)), (1, .int x1), (2, .int x2), (3, .int x3), (4, .int x4), (6, .int x6)]) h d_Spans_firstWithin_90 (by decide) rfl ?_
                  refine r_iinc (ls' := [(6, .int (x6 + (1 : Int32))), (5, .int (σ.1 9 (Int32.toNatClampNeg x6))), (0, .ref (ya Z 6)), (1, .int x1), (2, .int x2), (3, .int x3), (4, .int x4)]) h d_Spans_firstWithin_92 6 rfl ki_1 (by decide) rfl ?_
                  refine r_goto h d_Spans_firstWithin_95 ?_
                  refine r_sub h [2, 3, 4, 5, 6, 1, 0] rfl ?_
                  exact ih _ _ hf
            · refine r_goto h d_Spans_firstWithin_61 ?_
              refine r_iinc (ls' := [(6, .int (x6 + (1 : Int32))), (0, .ref (ya Z 6)), (1, .int x1), (2, .int x2), (3, .int x3), (4, .int x4), (5, .int x5)]) h d_Spans_firstWithin_92 6 rfl ki_1 (by decide) rfl ?_
              refine r_goto h d_Spans_firstWithin_95 ?_
              refine r_sub h [1, 2, 3, 4, 5, 6, 0] rfl ?_
              exact ih _ _ hf

set_option maxHeartbeats 4000000 in
theorem m_Spans_firstWithin_stays {Z : Sy} {σ : St} {res : Int32} {x1 : Int32} {x2 : Int32} {x3 : Int32} {x4 : Int32} (hf : Spans_firstWithin_stays x1 x2 x3 x4 σ = some res) : Ct YC Z y_Spans_firstWithin c_Spans_firstWithin 7 (some .int) 1 [.ref (ya Z 6), .int x1, .int x2, .int x3, .int x4] σ (some (.int res)) σ := by
  refine Ct.of pn_Spans (Nat.le_of_ble_eq_true rfl) rfl (fun Γ h => ?_)
  have h : IsG YC Z R_Spans c_Spans_firstWithin 7 1 (some .int) (some (.int res)) σ Γ := h
  unfold Spans_firstWithin_stays at hf
  refine r_bipush h d_Spans_firstWithin_0 kb_m9 ?_
  refine r_istore (ls' := [(5, .int (-9 : Int32)), (0, .ref (ya Z 6)), (1, .int x1), (2, .int x2), (3, .int x3), (4, .int x4)]) h d_Spans_firstWithin_2 (by decide) rfl ?_
  refine r_iconst h d_Spans_firstWithin_4 ki_0 ?_
  refine r_istore (ls' := [(6, .int (0 : Int32)), (5, .int (-9 : Int32)), (0, .ref (ya Z 6)), (1, .int x1), (2, .int x2), (3, .int x3), (4, .int x4)]) h d_Spans_firstWithin_5 (by decide) rfl ?_
  refine r_sub h [2, 3, 4, 5, 6, 1, 0] rfl ?_
  exact w_Spans_firstWithin_stays_L7 h _ _ _ hf

theorem d_P_walked_0 : decode c_P_walked 0 = .ok (.aload_n 0, 1) ∧ 0 + 1 = 1 := by decide +kernel
theorem d_P_walked_1 : decode c_P_walked 1 = .ok (.getfield 12, 3) ∧ 1 + 3 = 4 := by decide +kernel
theorem d_P_walked_4 : decode c_P_walked 4 = .ok (.iload_n 2, 1) ∧ 4 + 1 = 5 := by decide +kernel
theorem d_P_walked_5 : decode c_P_walked 5 = .ok (.invokevirtual 112, 3) ∧ 5 + 3 = 8 := by decide +kernel
theorem d_P_walked_8 : decode c_P_walked 8 = .ok (.ifCond .eq 14, 3) ∧ 8 + 3 = 11 ∧ ((8 : Nat) : Int) + 14 = ((22 : Nat) : Int) := by decide +kernel
theorem d_P_walked_11 : decode c_P_walked 11 = .ok (.aload_n 0, 1) ∧ 11 + 1 = 12 := by decide +kernel
theorem d_P_walked_12 : decode c_P_walked 12 = .ok (.getfield 78, 3) ∧ 12 + 3 = 15 := by decide +kernel
theorem d_P_walked_15 : decode c_P_walked 15 = .ok (.iload_n 1, 1) ∧ 15 + 1 = 16 := by decide +kernel
theorem d_P_walked_16 : decode c_P_walked 16 = .ok (.invokevirtual 349, 3) ∧ 16 + 3 = 19 := by decide +kernel
theorem d_P_walked_19 : decode c_P_walked 19 = .ok (.ifCond .ne 5, 3) ∧ 19 + 3 = 22 ∧ ((19 : Nat) : Int) + 5 = ((24 : Nat) : Int) := by decide +kernel
theorem d_P_walked_22 : decode c_P_walked 22 = .ok (.iconst (-1), 1) ∧ 22 + 1 = 23 := by decide +kernel
theorem d_P_walked_23 : decode c_P_walked 23 = .ok (.ireturn, 1) ∧ 23 + 1 = 24 := by decide +kernel
theorem d_P_walked_24 : decode c_P_walked 24 = .ok (.iload_n 3, 1) ∧ 24 + 1 = 25 := by decide +kernel
theorem d_P_walked_25 : decode c_P_walked 25 = .ok (.iload 4, 2) ∧ 25 + 2 = 27 := by decide +kernel
theorem d_P_walked_27 : decode c_P_walked 27 = .ok (.invokestatic 119, 3) ∧ 27 + 3 = 30 := by decide +kernel
theorem d_P_walked_30 : decode c_P_walked 30 = .ok (.ifCond .ne 6, 3) ∧ 30 + 3 = 33 ∧ ((30 : Nat) : Int) + 6 = ((36 : Nat) : Int) := by decide +kernel
theorem d_P_walked_33 : decode c_P_walked 33 = .ok (.bipush (-2), 2) ∧ 33 + 2 = 35 := by decide +kernel
theorem d_P_walked_35 : decode c_P_walked 35 = .ok (.ireturn, 1) ∧ 35 + 1 = 36 := by decide +kernel
theorem d_P_walked_36 : decode c_P_walked 36 = .ok (.iconst (-1), 1) ∧ 36 + 1 = 37 := by decide +kernel
theorem d_P_walked_37 : decode c_P_walked 37 = .ok (.istore 5, 2) ∧ 37 + 2 = 39 := by decide +kernel
theorem d_P_walked_39 : decode c_P_walked 39 = .ok (.iconst 0, 1) ∧ 39 + 1 = 40 := by decide +kernel
theorem d_P_walked_40 : decode c_P_walked 40 = .ok (.istore 6, 2) ∧ 40 + 2 = 42 := by decide +kernel
theorem d_P_walked_42 : decode c_P_walked 42 = .ok (.iload 6, 2) ∧ 42 + 2 = 44 := by decide +kernel
theorem d_P_walked_44 : decode c_P_walked 44 = .ok (.aload_n 0, 1) ∧ 44 + 1 = 45 := by decide +kernel
theorem d_P_walked_45 : decode c_P_walked 45 = .ok (.getfield 78, 3) ∧ 45 + 3 = 48 := by decide +kernel
theorem d_P_walked_48 : decode c_P_walked 48 = .ok (.getfield 356, 3) ∧ 48 + 3 = 51 := by decide +kernel
theorem d_P_walked_51 : decode c_P_walked 51 = .ok (.iload_n 1, 1) ∧ 51 + 1 = 52 := by decide +kernel
theorem d_P_walked_52 : decode c_P_walked 52 = .ok (.iaload, 1) ∧ 52 + 1 = 53 := by decide +kernel
theorem d_P_walked_53 : decode c_P_walked 53 = .ok (.if_icmp .ge 48, 3) ∧ 53 + 3 = 56 ∧ ((53 : Nat) : Int) + 48 = ((101 : Nat) : Int) := by decide +kernel
theorem d_P_walked_56 : decode c_P_walked 56 = .ok (.aload_n 0, 1) ∧ 56 + 1 = 57 := by decide +kernel
theorem d_P_walked_57 : decode c_P_walked 57 = .ok (.getfield 23, 3) ∧ 57 + 3 = 60 := by decide +kernel
theorem d_P_walked_60 : decode c_P_walked 60 = .ok (.iload_n 2, 1) ∧ 60 + 1 = 61 := by decide +kernel
theorem d_P_walked_61 : decode c_P_walked 61 = .ok (.aload_n 0, 1) ∧ 61 + 1 = 62 := by decide +kernel
theorem d_P_walked_62 : decode c_P_walked 62 = .ok (.getfield 78, 3) ∧ 62 + 3 = 65 := by decide +kernel
theorem d_P_walked_65 : decode c_P_walked 65 = .ok (.iload_n 1, 1) ∧ 65 + 1 = 66 := by decide +kernel
theorem d_P_walked_66 : decode c_P_walked 66 = .ok (.iload 6, 2) ∧ 66 + 2 = 68 := by decide +kernel
theorem d_P_walked_68 : decode c_P_walked 68 = .ok (.invokevirtual 359, 3) ∧ 68 + 3 = 71 := by decide +kernel
theorem d_P_walked_71 : decode c_P_walked 71 = .ok (.iload_n 3, 1) ∧ 71 + 1 = 72 := by decide +kernel
theorem d_P_walked_72 : decode c_P_walked 72 = .ok (.iload 5, 2) ∧ 72 + 2 = 74 := by decide +kernel
theorem d_P_walked_74 : decode c_P_walked 74 = .ok (.iconst 1, 1) ∧ 74 + 1 = 75 := by decide +kernel
theorem d_P_walked_75 : decode c_P_walked 75 = .ok (.iadd, 1) ∧ 75 + 1 = 76 := by decide +kernel
theorem d_P_walked_76 : decode c_P_walked 76 = .ok (.invokestatic 317, 3) ∧ 76 + 3 = 79 := by decide +kernel
theorem d_P_walked_79 : decode c_P_walked 79 = .ok (.iload 4, 2) ∧ 79 + 2 = 81 := by decide +kernel
theorem d_P_walked_81 : decode c_P_walked 81 = .ok (.invokevirtual 362, 3) ∧ 81 + 3 = 84 := by decide +kernel
theorem d_P_walked_84 : decode c_P_walked 84 = .ok (.istore 5, 2) ∧ 84 + 2 = 86 := by decide +kernel
theorem d_P_walked_86 : decode c_P_walked 86 = .ok (.iload 5, 2) ∧ 86 + 2 = 88 := by decide +kernel
theorem d_P_walked_88 : decode c_P_walked 88 = .ok (.bipush (-9), 2) ∧ 88 + 2 = 90 := by decide +kernel
theorem d_P_walked_90 : decode c_P_walked 90 = .ok (.if_icmp .ne 5, 3) ∧ 90 + 3 = 93 ∧ ((90 : Nat) : Int) + 5 = ((95 : Nat) : Int) := by decide +kernel
theorem d_P_walked_93 : decode c_P_walked 93 = .ok (.iconst 0, 1) ∧ 93 + 1 = 94 := by decide +kernel
theorem d_P_walked_94 : decode c_P_walked 94 = .ok (.ireturn, 1) ∧ 94 + 1 = 95 := by decide +kernel
theorem d_P_walked_95 : decode c_P_walked 95 = .ok (.iinc 6 1, 3) ∧ 95 + 3 = 98 := by decide +kernel
theorem d_P_walked_98 : decode c_P_walked 98 = .ok (.goto (-56), 3) ∧ (98 : Int) + (-56) = (42 : Int) := by decide +kernel
theorem d_P_walked_101 : decode c_P_walked 101 = .ok (.iconst 1, 1) ∧ 101 + 1 = 102 := by decide +kernel
theorem d_P_walked_102 : decode c_P_walked 102 = .ok (.ireturn, 1) ∧ 102 + 1 = 103 := by decide +kernel
set_option maxHeartbeats 4000000 in
theorem w_P_walked_L42 {Z : Sy} {Γ : Nat → List (Nat × Value) → List Value → St → Prop} {res : Int32} {x1 : Int32} {x2 : Int32} {x3 : Int32} {x4 : Int32} {σ : St} (h : IsG YC Z R_P c_P_walked 7 3 (some .int) (some (.int res)) σ Γ) : ∀ (n : Nat) (x5 : Int32) (x6 : Int32), P_walked_L42 x1 x2 x3 x4 σ n x5 x6 = some res → Γ 42 [(0, .ref (ya Z 0)), (1, .int x1), (2, .int x2), (3, .int x3), (4, .int x4), (5, .int x5), (6, .int x6)] [] σ := by
  intro n
  induction n with
  | zero => intro x5 x6 hf; exact absurd hf (by simp [P_walked_L42])
  | succ n ih =>
    intro x5 x6 hf
    rw [P_walked_L42] at hf
    refine r_iload h d_P_walked_42 6 rfl ?_
    refine r_aload_n h d_P_walked_44 0 rfl rfl ?_
    refine r_getR h fd_YC_0_10 cf_P fl_P_78 d_P_walked_45 ?_
    refine r_getR h fd_YC_64_0 cf_Rounds fl_P_356 d_P_walked_48 ?_
    refine r_iload_n h d_P_walked_51 1 rfl rfl ?_
    refine r_iald h sh_YC_65 d_P_walked_52 hf (fun hf => ?_)
    refine r_icmp_ge h d_P_walked_53 hf (fun hf => ?_) (fun hf => ?_)
    · refine r_iconst h d_P_walked_101 ki_1 ?_
      exact r_ireturn h d_P_walked_102.1 (Option.some.inj hf) rfl
    · refine r_aload_n h d_P_walked_56 0 rfl rfl ?_
      refine r_getR h fd_YC_0_1 cf_P fl_P_23 d_P_walked_57 ?_
      refine r_iload_n h d_P_walked_60 2 rfl rfl ?_
      refine r_aload_n h d_P_walked_61 0 rfl rfl ?_
      refine r_getR h fd_YC_0_10 cf_P fl_P_78 d_P_walked_62 ?_
      refine r_iload_n h d_P_walked_65 1 rfl rfl ?_
      refine r_iload h d_P_walked_66 6 rfl ?_
      obtain ⟨r68, e68, hf⟩ := q_bind hf
      refine r_callV (As := [.int x1, .int x6]) (rest := [.int x2, .ref (ya Z 6)]) h sh_YC_64 lk_P_359 vk_P_359 d_P_walked_68 (by decide) rfl rfl (Nat.le_of_ble_eq_true rfl) (m_Rounds_stopAt e68) ?_
      refine r_iload_n h d_P_walked_71 3 rfl rfl ?_
      refine r_iload h d_P_walked_72 5 rfl ?_
      refine r_iconst h d_P_walked_74 ki_1 ?_
      refine r_iadd h d_P_walked_75 ?_
      refine r_mmax h ⟨tm_887, tm_146, tm_82, tm_147⟩ (by decide) (Nat.le_of_ble_eq_true rfl) d_P_walked_76 ?_
      refine r_iload h d_P_walked_79 4 rfl ?_
      obtain ⟨r81, e81, hf⟩ := q_bind hf
      refine r_callV (As := [.int x2, .int r68, .int (maI x3 (x5 + (1 : Int32))), .int x4]) (rest := []) h sh_YC_6 lk_P_362 vk_P_362 d_P_walked_81 (by decide) rfl rfl (Nat.le_of_ble_eq_true rfl) (m_Spans_firstWithin_stays e81) ?_
      refine r_istore (ls' := [(5, .int r81), (0, .ref (ya Z 0)), (1, .int x1), (2, .int x2), (3, .int x3), (4, .int x4), (6, .int x6)]) h d_P_walked_84 (by decide) rfl ?_
      refine r_iload h d_P_walked_86 0 rfl ?_
      refine r_bipush h d_P_walked_88 kb_m9 ?_
      refine r_icmp_ne h d_P_walked_90 hf (fun hf => ?_) (fun hf => ?_)
      · refine r_iinc (ls' := [(6, .int (x6 + (1 : Int32))), (5, .int r81), (0, .ref (ya Z 0)), (1, .int x1), (2, .int x2), (3, .int x3), (4, .int x4)]) h d_P_walked_95 6 rfl ki_1 (by decide) rfl ?_
        refine r_goto h d_P_walked_98 ?_
        refine r_sub h [2, 3, 4, 5, 6, 1, 0] rfl ?_
        exact ih _ _ hf
      · refine r_iconst h d_P_walked_93 ki_0 ?_
        exact r_ireturn h d_P_walked_94.1 (Option.some.inj hf) rfl

set_option maxHeartbeats 4000000 in
theorem m_P_walked {Z : Sy} {σ : St} {res : Int32} {x1 : Int32} {x2 : Int32} {x3 : Int32} {x4 : Int32} (hf : P_walked x1 x2 x3 x4 σ = some res) : Ct YC Z y_P_walked c_P_walked 7 (some .int) 3 [.ref (ya Z 0), .int x1, .int x2, .int x3, .int x4] σ (some (.int res)) σ := by
  refine Ct.of pn_P (Nat.le_of_ble_eq_true rfl) rfl (fun Γ h => ?_)
  have h : IsG YC Z R_P c_P_walked 7 3 (some .int) (some (.int res)) σ Γ := h
  unfold P_walked at hf
  refine r_aload_n h d_P_walked_0 0 rfl rfl ?_
  refine r_getR h fd_YC_0_0 cf_P fl_P_12 d_P_walked_1 ?_
  refine r_iload_n h d_P_walked_4 2 rfl rfl ?_
  obtain ⟨r5, e5, hf⟩ := q_bind hf
  refine r_callV (As := [.int x2]) (rest := []) h sh_YC_1 lk_P_112 vk_P_112 d_P_walked_5 (by decide) rfl rfl (Nat.le_of_ble_eq_true rfl) (m_Roll_hasBand e5) ?_
  refine r_bif_eq h d_P_walked_8 hf (fun hf => ?_) (fun hf => ?_)
  · refine r_iconst h d_P_walked_22 ki_m1 ?_
    exact r_ireturn h d_P_walked_23.1 (Option.some.inj hf) rfl
  · refine r_aload_n h d_P_walked_11 0 rfl rfl ?_
    refine r_getR h fd_YC_0_10 cf_P fl_P_78 d_P_walked_12 ?_
    refine r_iload_n h d_P_walked_15 1 rfl rfl ?_
    obtain ⟨r16, e16, hf⟩ := q_bind hf
    refine r_callV (As := [.int x1]) (rest := []) h sh_YC_64 lk_P_349 vk_P_349 d_P_walked_16 (by decide) rfl rfl (Nat.le_of_ble_eq_true rfl) (m_Rounds_has e16) ?_
    refine r_bif_ne h d_P_walked_19 hf (fun hf => ?_) (fun hf => ?_)
    · refine r_iload_n h d_P_walked_24 3 rfl rfl ?_
      refine r_iload h d_P_walked_25 4 rfl ?_
      obtain ⟨r27, e27, hf⟩ := q_bind hf
      refine r_callS (As := [.int x3, .int x4]) (rest := []) h lk_P_119 sk_P_119 d_P_walked_27 (by decide) rfl rfl (Nat.le_of_ble_eq_true rfl) (m_P_areDays e27) ?_
      refine r_bif_ne h d_P_walked_30 hf (fun hf => ?_) (fun hf => ?_)
      · refine r_iconst h d_P_walked_36 ki_m1 ?_
        refine r_istore (ls' := [(5, .int (-1 : Int32)), (0, .ref (ya Z 0)), (1, .int x1), (2, .int x2), (3, .int x3), (4, .int x4)]) h d_P_walked_37 (by decide) rfl ?_
        refine r_iconst h d_P_walked_39 ki_0 ?_
        refine r_istore (ls' := [(6, .int (0 : Int32)), (5, .int (-1 : Int32)), (0, .ref (ya Z 0)), (1, .int x1), (2, .int x2), (3, .int x3), (4, .int x4)]) h d_P_walked_40 (by decide) rfl ?_
        refine r_sub h [2, 3, 4, 5, 6, 1, 0] rfl ?_
        exact w_P_walked_L42 h _ _ _ hf
      · refine r_bipush h d_P_walked_33 kb_m2 ?_
        exact r_ireturn h d_P_walked_35.1 (Option.some.inj hf) rfl
    · refine r_iconst h d_P_walked_22 ki_m1 ?_
      exact r_ireturn h d_P_walked_23.1 (Option.some.inj hf) rfl

theorem d_Offers_add_0 : decode c_Offers_add 0 = .ok (.aload_n 0, 1) ∧ 0 + 1 = 1 := by decide +kernel
theorem d_Offers_add_1 : decode c_Offers_add 1 = .ok (.getfield 30, 3) ∧ 1 + 3 = 4 := by decide +kernel
theorem d_Offers_add_4 : decode c_Offers_add 4 = .ok (.aload_n 0, 1) ∧ 4 + 1 = 5 := by decide +kernel
theorem d_Offers_add_5 : decode c_Offers_add 5 = .ok (.getfield 9, 3) ∧ 5 + 3 = 8 := by decide +kernel
theorem d_Offers_add_8 : decode c_Offers_add 8 = .ok (.arraylength, 1) ∧ 8 + 1 = 9 := by decide +kernel
theorem d_Offers_add_9 : decode c_Offers_add 9 = .ok (.if_icmp .lt 6, 3) ∧ 9 + 3 = 12 ∧ ((9 : Nat) : Int) + 6 = ((15 : Nat) : Int) := by decide +kernel
theorem d_Offers_add_12 : decode c_Offers_add 12 = .ok (.bipush (-4), 2) ∧ 12 + 2 = 14 := by decide +kernel
theorem d_Offers_add_14 : decode c_Offers_add 14 = .ok (.ireturn, 1) ∧ 14 + 1 = 15 := by decide +kernel
theorem d_Offers_add_15 : decode c_Offers_add 15 = .ok (.aload_n 0, 1) ∧ 15 + 1 = 16 := by decide +kernel
theorem d_Offers_add_16 : decode c_Offers_add 16 = .ok (.getfield 9, 3) ∧ 16 + 3 = 19 := by decide +kernel
theorem d_Offers_add_19 : decode c_Offers_add 19 = .ok (.aload_n 0, 1) ∧ 19 + 1 = 20 := by decide +kernel
theorem d_Offers_add_20 : decode c_Offers_add 20 = .ok (.getfield 30, 3) ∧ 20 + 3 = 23 := by decide +kernel
theorem d_Offers_add_23 : decode c_Offers_add 23 = .ok (.iload_n 1, 1) ∧ 23 + 1 = 24 := by decide +kernel
theorem d_Offers_add_24 : decode c_Offers_add 24 = .ok (.iastore, 1) ∧ 24 + 1 = 25 := by decide +kernel
theorem d_Offers_add_25 : decode c_Offers_add 25 = .ok (.aload_n 0, 1) ∧ 25 + 1 = 26 := by decide +kernel
theorem d_Offers_add_26 : decode c_Offers_add 26 = .ok (.getfield 15, 3) ∧ 26 + 3 = 29 := by decide +kernel
theorem d_Offers_add_29 : decode c_Offers_add 29 = .ok (.aload_n 0, 1) ∧ 29 + 1 = 30 := by decide +kernel
theorem d_Offers_add_30 : decode c_Offers_add 30 = .ok (.getfield 30, 3) ∧ 30 + 3 = 33 := by decide +kernel
theorem d_Offers_add_33 : decode c_Offers_add 33 = .ok (.iload_n 2, 1) ∧ 33 + 1 = 34 := by decide +kernel
theorem d_Offers_add_34 : decode c_Offers_add 34 = .ok (.iastore, 1) ∧ 34 + 1 = 35 := by decide +kernel
theorem d_Offers_add_35 : decode c_Offers_add 35 = .ok (.aload_n 0, 1) ∧ 35 + 1 = 36 := by decide +kernel
theorem d_Offers_add_36 : decode c_Offers_add 36 = .ok (.getfield 18, 3) ∧ 36 + 3 = 39 := by decide +kernel
theorem d_Offers_add_39 : decode c_Offers_add 39 = .ok (.aload_n 0, 1) ∧ 39 + 1 = 40 := by decide +kernel
theorem d_Offers_add_40 : decode c_Offers_add 40 = .ok (.getfield 30, 3) ∧ 40 + 3 = 43 := by decide +kernel
theorem d_Offers_add_43 : decode c_Offers_add 43 = .ok (.iload_n 3, 1) ∧ 43 + 1 = 44 := by decide +kernel
theorem d_Offers_add_44 : decode c_Offers_add 44 = .ok (.iastore, 1) ∧ 44 + 1 = 45 := by decide +kernel
theorem d_Offers_add_45 : decode c_Offers_add 45 = .ok (.aload_n 0, 1) ∧ 45 + 1 = 46 := by decide +kernel
theorem d_Offers_add_46 : decode c_Offers_add 46 = .ok (.getfield 21, 3) ∧ 46 + 3 = 49 := by decide +kernel
theorem d_Offers_add_49 : decode c_Offers_add 49 = .ok (.aload_n 0, 1) ∧ 49 + 1 = 50 := by decide +kernel
theorem d_Offers_add_50 : decode c_Offers_add 50 = .ok (.getfield 30, 3) ∧ 50 + 3 = 53 := by decide +kernel
theorem d_Offers_add_53 : decode c_Offers_add 53 = .ok (.iload 4, 2) ∧ 53 + 2 = 55 := by decide +kernel
theorem d_Offers_add_55 : decode c_Offers_add 55 = .ok (.iastore, 1) ∧ 55 + 1 = 56 := by decide +kernel
theorem d_Offers_add_56 : decode c_Offers_add 56 = .ok (.aload_n 0, 1) ∧ 56 + 1 = 57 := by decide +kernel
theorem d_Offers_add_57 : decode c_Offers_add 57 = .ok (.getfield 24, 3) ∧ 57 + 3 = 60 := by decide +kernel
theorem d_Offers_add_60 : decode c_Offers_add 60 = .ok (.aload_n 0, 1) ∧ 60 + 1 = 61 := by decide +kernel
theorem d_Offers_add_61 : decode c_Offers_add 61 = .ok (.getfield 30, 3) ∧ 61 + 3 = 64 := by decide +kernel
theorem d_Offers_add_64 : decode c_Offers_add 64 = .ok (.iload 5, 2) ∧ 64 + 2 = 66 := by decide +kernel
theorem d_Offers_add_66 : decode c_Offers_add 66 = .ok (.iastore, 1) ∧ 66 + 1 = 67 := by decide +kernel
theorem d_Offers_add_67 : decode c_Offers_add 67 = .ok (.aload_n 0, 1) ∧ 67 + 1 = 68 := by decide +kernel
theorem d_Offers_add_68 : decode c_Offers_add 68 = .ok (.iconst 0, 1) ∧ 68 + 1 = 69 := by decide +kernel
theorem d_Offers_add_69 : decode c_Offers_add 69 = .ok (.putfield 34, 3) ∧ 69 + 3 = 72 := by decide +kernel
theorem d_Offers_add_72 : decode c_Offers_add 72 = .ok (.aload_n 0, 1) ∧ 72 + 1 = 73 := by decide +kernel
theorem d_Offers_add_73 : decode c_Offers_add 73 = .ok (.dup, 1) ∧ 73 + 1 = 74 := by decide +kernel
theorem d_Offers_add_74 : decode c_Offers_add 74 = .ok (.getfield 30, 3) ∧ 74 + 3 = 77 := by decide +kernel
theorem d_Offers_add_77 : decode c_Offers_add 77 = .ok (.dup_x1, 1) ∧ 77 + 1 = 78 := by decide +kernel
theorem d_Offers_add_78 : decode c_Offers_add 78 = .ok (.iconst 1, 1) ∧ 78 + 1 = 79 := by decide +kernel
theorem d_Offers_add_79 : decode c_Offers_add 79 = .ok (.iadd, 1) ∧ 79 + 1 = 80 := by decide +kernel
theorem d_Offers_add_80 : decode c_Offers_add 80 = .ok (.putfield 30, 3) ∧ 80 + 3 = 83 := by decide +kernel
theorem d_Offers_add_83 : decode c_Offers_add 83 = .ok (.ireturn, 1) ∧ 83 + 1 = 84 := by decide +kernel
set_option maxHeartbeats 4000000 in
theorem m_Offers_add {Z : Sy} {σ : St} {res : (Int32 × St)} {x1 : Int32} {x2 : Int32} {x3 : Int32} {x4 : Int32} {x5 : Int32} (hf : Offers_add x1 x2 x3 x4 x5 σ = some res) : Ct YC Z y_Offers_add c_Offers_add 6 (some .int) 1 [.ref (ya Z 67), .int x1, .int x2, .int x3, .int x4, .int x5] σ (some (.int res.1)) res.2 := by
  refine Ct.of pn_Offers (Nat.le_of_ble_eq_true rfl) rfl (fun Γ h => ?_)
  have h : IsG YC Z R_Offers c_Offers_add 6 1 (some .int) (some (.int res.1)) res.2 Γ := h
  unfold Offers_add at hf
  refine r_aload_n h d_Offers_add_0 0 rfl rfl ?_
  refine r_getI h fd_YC_67_6 cf_Offers fl_Offers_30 d_Offers_add_1 ?_
  refine r_aload_n h d_Offers_add_4 0 rfl rfl ?_
  refine r_getR h fd_YC_67_0 cf_Offers fl_Offers_9 d_Offers_add_5 ?_
  refine r_alen h sh_YC_68 kn_9 d_Offers_add_8 ?_
  refine r_icmp_lt h d_Offers_add_9 hf (fun hf => ?_) (fun hf => ?_)
  · refine r_aload_n h d_Offers_add_15 0 rfl rfl ?_
    refine r_getR h fd_YC_67_0 cf_Offers fl_Offers_9 d_Offers_add_16 ?_
    refine r_aload_n h d_Offers_add_19 0 rfl rfl ?_
    refine r_getI h fd_YC_67_6 cf_Offers fl_Offers_30 d_Offers_add_20 ?_
    refine r_iload_n h d_Offers_add_23 1 rfl rfl ?_
    refine r_iast h sh_YC_68 d_Offers_add_24 hf (fun hf => ?_)
    refine r_aload_n h d_Offers_add_25 0 rfl rfl ?_
    refine r_getR h fd_YC_67_1 cf_Offers fl_Offers_15 d_Offers_add_26 ?_
    refine r_aload_n h d_Offers_add_29 0 rfl rfl ?_
    refine r_getIv (v := (σ.1 67 6)) h fd_YC_67_6 cf_Offers fl_Offers_30 d_Offers_add_30 rfl ?_
    refine r_iload_n h d_Offers_add_33 2 rfl rfl ?_
    refine r_iast h sh_YC_69 d_Offers_add_34 hf (fun hf => ?_)
    refine r_aload_n h d_Offers_add_35 0 rfl rfl ?_
    refine r_getR h fd_YC_67_2 cf_Offers fl_Offers_18 d_Offers_add_36 ?_
    refine r_aload_n h d_Offers_add_39 0 rfl rfl ?_
    refine r_getIv (v := (σ.1 67 6)) h fd_YC_67_6 cf_Offers fl_Offers_30 d_Offers_add_40 rfl ?_
    refine r_iload_n h d_Offers_add_43 3 rfl rfl ?_
    refine r_iast h sh_YC_70 d_Offers_add_44 hf (fun hf => ?_)
    refine r_aload_n h d_Offers_add_45 0 rfl rfl ?_
    refine r_getR h fd_YC_67_3 cf_Offers fl_Offers_21 d_Offers_add_46 ?_
    refine r_aload_n h d_Offers_add_49 0 rfl rfl ?_
    refine r_getIv (v := (σ.1 67 6)) h fd_YC_67_6 cf_Offers fl_Offers_30 d_Offers_add_50 rfl ?_
    refine r_iload h d_Offers_add_53 4 rfl ?_
    refine r_iast h sh_YC_71 d_Offers_add_55 hf (fun hf => ?_)
    refine r_aload_n h d_Offers_add_56 0 rfl rfl ?_
    refine r_getR h fd_YC_67_4 cf_Offers fl_Offers_24 d_Offers_add_57 ?_
    refine r_aload_n h d_Offers_add_60 0 rfl rfl ?_
    refine r_getIv (v := (σ.1 67 6)) h fd_YC_67_6 cf_Offers fl_Offers_30 d_Offers_add_61 rfl ?_
    refine r_iload h d_Offers_add_64 5 rfl ?_
    refine r_iast h sh_YC_72 d_Offers_add_66 hf (fun hf => ?_)
    refine r_aload_n h d_Offers_add_67 0 rfl rfl ?_
    refine r_iconst h d_Offers_add_68 ki_0 ?_
    refine r_putX h fd_YC_67_9 cf_Offers fl_Offers_34 ⟨rfl, rfl⟩ (ty := .boolean) (by decide) (by decide) d_Offers_add_69 ?_
    refine r_aload_n h d_Offers_add_72 0 rfl rfl ?_
    refine r_dup h d_Offers_add_73 rfl ?_
    refine r_getIv (v := (σ.1 67 6)) h fd_YC_67_6 cf_Offers fl_Offers_30 d_Offers_add_74 rfl ?_
    refine r_dup_x1 h d_Offers_add_77 rfl rfl ?_
    refine r_iconst h d_Offers_add_78 ki_1 ?_
    refine r_iadd h d_Offers_add_79 ?_
    refine r_putI h fd_YC_67_6 cf_Offers fl_Offers_30 ⟨rfl, rfl⟩ d_Offers_add_80 ?_
    exact r_ireturn h d_Offers_add_83.1 (q_p1 hf) (q_p2 hf)
  · refine r_bipush h d_Offers_add_12 kb_m4 ?_
    exact r_ireturn h d_Offers_add_14.1 (q_p1 hf) (q_p2 hf)

theorem d_P_offer_0 : decode c_P_offer 0 = .ok (.aload_n 0, 1) ∧ 0 + 1 = 1 := by decide +kernel
theorem d_P_offer_1 : decode c_P_offer 1 = .ok (.getfield 12, 3) ∧ 1 + 3 = 4 := by decide +kernel
theorem d_P_offer_4 : decode c_P_offer 4 = .ok (.iload_n 1, 1) ∧ 4 + 1 = 5 := by decide +kernel
theorem d_P_offer_5 : decode c_P_offer 5 = .ok (.invokevirtual 112, 3) ∧ 5 + 3 = 8 := by decide +kernel
theorem d_P_offer_8 : decode c_P_offer 8 = .ok (.ifCond .eq 25, 3) ∧ 8 + 3 = 11 ∧ ((8 : Nat) : Int) + 25 = ((33 : Nat) : Int) := by decide +kernel
theorem d_P_offer_11 : decode c_P_offer 11 = .ok (.aload_n 0, 1) ∧ 11 + 1 = 12 := by decide +kernel
theorem d_P_offer_12 : decode c_P_offer 12 = .ok (.getfield 12, 3) ∧ 12 + 3 = 15 := by decide +kernel
theorem d_P_offer_15 : decode c_P_offer 15 = .ok (.iload_n 2, 1) ∧ 15 + 1 = 16 := by decide +kernel
theorem d_P_offer_16 : decode c_P_offer 16 = .ok (.invokevirtual 141, 3) ∧ 16 + 3 = 19 := by decide +kernel
theorem d_P_offer_19 : decode c_P_offer 19 = .ok (.ifCond .eq 14, 3) ∧ 19 + 3 = 22 ∧ ((19 : Nat) : Int) + 14 = ((33 : Nat) : Int) := by decide +kernel
theorem d_P_offer_22 : decode c_P_offer 22 = .ok (.aload_n 0, 1) ∧ 22 + 1 = 23 := by decide +kernel
theorem d_P_offer_23 : decode c_P_offer 23 = .ok (.getfield 78, 3) ∧ 23 + 3 = 26 := by decide +kernel
theorem d_P_offer_26 : decode c_P_offer 26 = .ok (.iload_n 3, 1) ∧ 26 + 1 = 27 := by decide +kernel
theorem d_P_offer_27 : decode c_P_offer 27 = .ok (.invokevirtual 349, 3) ∧ 27 + 3 = 30 := by decide +kernel
theorem d_P_offer_30 : decode c_P_offer 30 = .ok (.ifCond .ne 5, 3) ∧ 30 + 3 = 33 ∧ ((30 : Nat) : Int) + 5 = ((35 : Nat) : Int) := by decide +kernel
theorem d_P_offer_33 : decode c_P_offer 33 = .ok (.iconst (-1), 1) ∧ 33 + 1 = 34 := by decide +kernel
theorem d_P_offer_34 : decode c_P_offer 34 = .ok (.ireturn, 1) ∧ 34 + 1 = 35 := by decide +kernel
theorem d_P_offer_35 : decode c_P_offer 35 = .ok (.iload 4, 2) ∧ 35 + 2 = 37 := by decide +kernel
theorem d_P_offer_37 : decode c_P_offer 37 = .ok (.ldc_w 365, 3) ∧ 37 + 3 = 40 := by decide +kernel
theorem d_P_offer_40 : decode c_P_offer 40 = .ok (.invokestatic 96, 3) ∧ 40 + 3 = 43 := by decide +kernel
theorem d_P_offer_43 : decode c_P_offer 43 = .ok (.ifCond .eq 19, 3) ∧ 43 + 3 = 46 ∧ ((43 : Nat) : Int) + 19 = ((62 : Nat) : Int) := by decide +kernel
theorem d_P_offer_46 : decode c_P_offer 46 = .ok (.iload 5, 2) ∧ 46 + 2 = 48 := by decide +kernel
theorem d_P_offer_48 : decode c_P_offer 48 = .ok (.ldc_w 366, 3) ∧ 48 + 3 = 51 := by decide +kernel
theorem d_P_offer_51 : decode c_P_offer 51 = .ok (.if_icmp .lt 11, 3) ∧ 51 + 3 = 54 ∧ ((51 : Nat) : Int) + 11 = ((62 : Nat) : Int) := by decide +kernel
theorem d_P_offer_54 : decode c_P_offer 54 = .ok (.iload 5, 2) ∧ 54 + 2 = 56 := by decide +kernel
theorem d_P_offer_56 : decode c_P_offer 56 = .ok (.ldc_w 288, 3) ∧ 56 + 3 = 59 := by decide +kernel
theorem d_P_offer_59 : decode c_P_offer 59 = .ok (.if_icmp .le 6, 3) ∧ 59 + 3 = 62 ∧ ((59 : Nat) : Int) + 6 = ((65 : Nat) : Int) := by decide +kernel
theorem d_P_offer_62 : decode c_P_offer 62 = .ok (.bipush (-2), 2) ∧ 62 + 2 = 64 := by decide +kernel
theorem d_P_offer_64 : decode c_P_offer 64 = .ok (.ireturn, 1) ∧ 64 + 1 = 65 := by decide +kernel
theorem d_P_offer_65 : decode c_P_offer 65 = .ok (.aload_n 0, 1) ∧ 65 + 1 = 66 := by decide +kernel
theorem d_P_offer_66 : decode c_P_offer 66 = .ok (.getfield 85, 3) ∧ 66 + 3 = 69 := by decide +kernel
theorem d_P_offer_69 : decode c_P_offer 69 = .ok (.iload_n 1, 1) ∧ 69 + 1 = 70 := by decide +kernel
theorem d_P_offer_70 : decode c_P_offer 70 = .ok (.iload_n 2, 1) ∧ 70 + 1 = 71 := by decide +kernel
theorem d_P_offer_71 : decode c_P_offer 71 = .ok (.iload_n 3, 1) ∧ 71 + 1 = 72 := by decide +kernel
theorem d_P_offer_72 : decode c_P_offer 72 = .ok (.iload 4, 2) ∧ 72 + 2 = 74 := by decide +kernel
theorem d_P_offer_74 : decode c_P_offer 74 = .ok (.iload 5, 2) ∧ 74 + 2 = 76 := by decide +kernel
theorem d_P_offer_76 : decode c_P_offer 76 = .ok (.invokevirtual 367, 3) ∧ 76 + 3 = 79 := by decide +kernel
theorem d_P_offer_79 : decode c_P_offer 79 = .ok (.ireturn, 1) ∧ 79 + 1 = 80 := by decide +kernel
set_option maxHeartbeats 4000000 in
theorem m_P_offer {Z : Sy} {σ : St} {res : (Int32 × St)} {x1 : Int32} {x2 : Int32} {x3 : Int32} {x4 : Int32} {x5 : Int32} (hf : P_offer x1 x2 x3 x4 x5 σ = some res) : Ct YC Z y_P_offer c_P_offer 6 (some .int) 3 [.ref (ya Z 0), .int x1, .int x2, .int x3, .int x4, .int x5] σ (some (.int res.1)) res.2 := by
  refine Ct.of pn_P (Nat.le_of_ble_eq_true rfl) rfl (fun Γ h => ?_)
  have h : IsG YC Z R_P c_P_offer 6 3 (some .int) (some (.int res.1)) res.2 Γ := h
  unfold P_offer at hf
  refine r_aload_n h d_P_offer_0 0 rfl rfl ?_
  refine r_getR h fd_YC_0_0 cf_P fl_P_12 d_P_offer_1 ?_
  refine r_iload_n h d_P_offer_4 1 rfl rfl ?_
  obtain ⟨r5, e5, hf⟩ := q_bind hf
  refine r_callV (As := [.int x1]) (rest := []) h sh_YC_1 lk_P_112 vk_P_112 d_P_offer_5 (by decide) rfl rfl (Nat.le_of_ble_eq_true rfl) (m_Roll_hasBand e5) ?_
  refine r_bif_eq h d_P_offer_8 hf (fun hf => ?_) (fun hf => ?_)
  · refine r_iconst h d_P_offer_33 ki_m1 ?_
    exact r_ireturn h d_P_offer_34.1 (q_p1 hf) (q_p2 hf)
  · refine r_aload_n h d_P_offer_11 0 rfl rfl ?_
    refine r_getR h fd_YC_0_0 cf_P fl_P_12 d_P_offer_12 ?_
    refine r_iload_n h d_P_offer_15 2 rfl rfl ?_
    obtain ⟨r16, e16, hf⟩ := q_bind hf
    refine r_callV (As := [.int x2]) (rest := []) h sh_YC_1 lk_P_141 vk_P_141 d_P_offer_16 (by decide) rfl rfl (Nat.le_of_ble_eq_true rfl) (m_Roll_hasHouse e16) ?_
    refine r_bif_eq h d_P_offer_19 hf (fun hf => ?_) (fun hf => ?_)
    · refine r_iconst h d_P_offer_33 ki_m1 ?_
      exact r_ireturn h d_P_offer_34.1 (q_p1 hf) (q_p2 hf)
    · refine r_aload_n h d_P_offer_22 0 rfl rfl ?_
      refine r_getR h fd_YC_0_10 cf_P fl_P_78 d_P_offer_23 ?_
      refine r_iload_n h d_P_offer_26 3 rfl rfl ?_
      obtain ⟨r27, e27, hf⟩ := q_bind hf
      refine r_callV (As := [.int x3]) (rest := []) h sh_YC_64 lk_P_349 vk_P_349 d_P_offer_27 (by decide) rfl rfl (Nat.le_of_ble_eq_true rfl) (m_Rounds_has e27) ?_
      refine r_bif_ne h d_P_offer_30 hf (fun hf => ?_) (fun hf => ?_)
      · refine r_iload h d_P_offer_35 4 rfl ?_
        refine r_ldcw h d_P_offer_37 tm_1039 ?_
        obtain ⟨r40, e40, hf⟩ := q_bind hf
        refine r_callS (As := [.int x4, .int (1000000 : Int32)]) (rest := []) h lk_P_96 sk_P_96 d_P_offer_40 (by decide) rfl rfl (Nat.le_of_ble_eq_true rfl) (m_P_isBelow e40) ?_
        refine r_bif_eq h d_P_offer_43 hf (fun hf => ?_) (fun hf => ?_)
        · refine r_bipush h d_P_offer_62 kb_m2 ?_
          exact r_ireturn h d_P_offer_64.1 (q_p1 hf) (q_p2 hf)
        · refine r_iload h d_P_offer_46 5 rfl ?_
          refine r_ldcw h d_P_offer_48 tm_1040 ?_
          refine r_icmp_lt h d_P_offer_51 hf (fun hf => ?_) (fun hf => ?_)
          · refine r_bipush h d_P_offer_62 kb_m2 ?_
            exact r_ireturn h d_P_offer_64.1 (q_p1 hf) (q_p2 hf)
          · refine r_iload h d_P_offer_54 5 rfl ?_
            refine r_ldcw h d_P_offer_56 tm_856 ?_
            refine r_icmp_le h d_P_offer_59 hf (fun hf => ?_) (fun hf => ?_)
            · refine r_aload_n h d_P_offer_65 0 rfl rfl ?_
              refine r_getR h fd_YC_0_11 cf_P fl_P_85 d_P_offer_66 ?_
              refine r_iload_n h d_P_offer_69 1 rfl rfl ?_
              refine r_iload_n h d_P_offer_70 2 rfl rfl ?_
              refine r_iload_n h d_P_offer_71 3 rfl rfl ?_
              refine r_iload h d_P_offer_72 4 rfl ?_
              refine r_iload h d_P_offer_74 5 rfl ?_
              obtain ⟨q76, e76, hf⟩ := q_bind hf
              refine r_callV (As := [.int x1, .int x2, .int x3, .int x4, .int x5]) (rest := []) h sh_YC_67 lk_P_367 vk_P_367 d_P_offer_76 (by decide) rfl rfl (Nat.le_of_ble_eq_true rfl) (m_Offers_add e76) ?_
              exact r_ireturn h d_P_offer_79.1 (q_p1 hf) (q_p2 hf)
            · refine r_bipush h d_P_offer_62 kb_m2 ?_
              exact r_ireturn h d_P_offer_64.1 (q_p1 hf) (q_p2 hf)
      · refine r_iconst h d_P_offer_33 ki_m1 ?_
        exact r_ireturn h d_P_offer_34.1 (q_p1 hf) (q_p2 hf)

theorem d_Offers_gainOfSet_0 : decode c_Offers_gainOfSet 0 = .ok (.iconst 0, 1) ∧ 0 + 1 = 1 := by decide +kernel
theorem d_Offers_gainOfSet_1 : decode c_Offers_gainOfSet 1 = .ok (.istore_n 2, 1) ∧ 1 + 1 = 2 := by decide +kernel
theorem d_Offers_gainOfSet_2 : decode c_Offers_gainOfSet 2 = .ok (.iconst 0, 1) ∧ 2 + 1 = 3 := by decide +kernel
theorem d_Offers_gainOfSet_3 : decode c_Offers_gainOfSet 3 = .ok (.istore_n 3, 1) ∧ 3 + 1 = 4 := by decide +kernel
theorem d_Offers_gainOfSet_4 : decode c_Offers_gainOfSet 4 = .ok (.iload_n 3, 1) ∧ 4 + 1 = 5 := by decide +kernel
theorem d_Offers_gainOfSet_5 : decode c_Offers_gainOfSet 5 = .ok (.aload_n 0, 1) ∧ 5 + 1 = 6 := by decide +kernel
theorem d_Offers_gainOfSet_6 : decode c_Offers_gainOfSet 6 = .ok (.getfield 30, 3) ∧ 6 + 3 = 9 := by decide +kernel
theorem d_Offers_gainOfSet_9 : decode c_Offers_gainOfSet 9 = .ok (.if_icmp .ge 26, 3) ∧ 9 + 3 = 12 ∧ ((9 : Nat) : Int) + 26 = ((35 : Nat) : Int) := by decide +kernel
theorem d_Offers_gainOfSet_12 : decode c_Offers_gainOfSet 12 = .ok (.iload_n 1, 1) ∧ 12 + 1 = 13 := by decide +kernel
theorem d_Offers_gainOfSet_13 : decode c_Offers_gainOfSet 13 = .ok (.iload_n 3, 1) ∧ 13 + 1 = 14 := by decide +kernel
theorem d_Offers_gainOfSet_14 : decode c_Offers_gainOfSet 14 = .ok (.ishr, 1) ∧ 14 + 1 = 15 := by decide +kernel
theorem d_Offers_gainOfSet_15 : decode c_Offers_gainOfSet 15 = .ok (.iconst 1, 1) ∧ 15 + 1 = 16 := by decide +kernel
theorem d_Offers_gainOfSet_16 : decode c_Offers_gainOfSet 16 = .ok (.iand, 1) ∧ 16 + 1 = 17 := by decide +kernel
theorem d_Offers_gainOfSet_17 : decode c_Offers_gainOfSet 17 = .ok (.ifCond .eq 12, 3) ∧ 17 + 3 = 20 ∧ ((17 : Nat) : Int) + 12 = ((29 : Nat) : Int) := by decide +kernel
theorem d_Offers_gainOfSet_20 : decode c_Offers_gainOfSet 20 = .ok (.iload_n 2, 1) ∧ 20 + 1 = 21 := by decide +kernel
theorem d_Offers_gainOfSet_21 : decode c_Offers_gainOfSet 21 = .ok (.aload_n 0, 1) ∧ 21 + 1 = 22 := by decide +kernel
theorem d_Offers_gainOfSet_22 : decode c_Offers_gainOfSet 22 = .ok (.getfield 24, 3) ∧ 22 + 3 = 25 := by decide +kernel
theorem d_Offers_gainOfSet_25 : decode c_Offers_gainOfSet 25 = .ok (.iload_n 3, 1) ∧ 25 + 1 = 26 := by decide +kernel
theorem d_Offers_gainOfSet_26 : decode c_Offers_gainOfSet 26 = .ok (.iaload, 1) ∧ 26 + 1 = 27 := by decide +kernel
theorem d_Offers_gainOfSet_27 : decode c_Offers_gainOfSet 27 = .ok (.iadd, 1) ∧ 27 + 1 = 28 := by decide +kernel
theorem d_Offers_gainOfSet_28 : decode c_Offers_gainOfSet 28 = .ok (.istore_n 2, 1) ∧ 28 + 1 = 29 := by decide +kernel
theorem d_Offers_gainOfSet_29 : decode c_Offers_gainOfSet 29 = .ok (.iinc 3 1, 3) ∧ 29 + 3 = 32 := by decide +kernel
theorem d_Offers_gainOfSet_32 : decode c_Offers_gainOfSet 32 = .ok (.goto (-28), 3) ∧ (32 : Int) + (-28) = (4 : Int) := by decide +kernel
theorem d_Offers_gainOfSet_35 : decode c_Offers_gainOfSet 35 = .ok (.iload_n 2, 1) ∧ 35 + 1 = 36 := by decide +kernel
theorem d_Offers_gainOfSet_36 : decode c_Offers_gainOfSet 36 = .ok (.ireturn, 1) ∧ 36 + 1 = 37 := by decide +kernel
set_option maxHeartbeats 4000000 in
theorem w_Offers_gainOfSet_L4 {Z : Sy} {Γ : Nat → List (Nat × Value) → List Value → St → Prop} {res : Int32} {x1 : Int32} {σ : St} (h : IsG YC Z R_Offers c_Offers_gainOfSet 4 1 (some .int) (some (.int res)) σ Γ) : ∀ (n : Nat) (x2 : Int32) (x3 : Int32), Offers_gainOfSet_L4 x1 σ n x2 x3 = some res → Γ 4 [(0, .ref (ya Z 67)), (1, .int x1), (2, .int x2), (3, .int x3)] [] σ := by
  intro n
  induction n with
  | zero => intro x2 x3 hf; exact absurd hf (by simp [Offers_gainOfSet_L4])
  | succ n ih =>
    intro x2 x3 hf
    rw [Offers_gainOfSet_L4] at hf
    refine r_iload_n h d_Offers_gainOfSet_4 3 rfl rfl ?_
    refine r_aload_n h d_Offers_gainOfSet_5 0 rfl rfl ?_
    refine r_getI h fd_YC_67_6 cf_Offers fl_Offers_30 d_Offers_gainOfSet_6 ?_
    refine r_icmp_ge h d_Offers_gainOfSet_9 hf (fun hf => ?_) (fun hf => ?_)
    · refine r_iload_n h d_Offers_gainOfSet_35 2 rfl rfl ?_
      exact r_ireturn h d_Offers_gainOfSet_36.1 (Option.some.inj hf) rfl
    · refine r_iload_n h d_Offers_gainOfSet_12 1 rfl rfl ?_
      refine r_iload_n h d_Offers_gainOfSet_13 3 rfl rfl ?_
      refine r_ishr h d_Offers_gainOfSet_14 ?_
      refine r_iconst h d_Offers_gainOfSet_15 ki_1 ?_
      refine r_iand h d_Offers_gainOfSet_16 ?_
      refine r_if_eq h d_Offers_gainOfSet_17 hf (fun hf => ?_) (fun hf => ?_)
      · refine r_iinc (ls' := [(3, .int (x3 + (1 : Int32))), (0, .ref (ya Z 67)), (1, .int x1), (2, .int x2)]) h d_Offers_gainOfSet_29 3 rfl ki_1 (by decide) rfl ?_
        refine r_goto h d_Offers_gainOfSet_32 ?_
        refine r_sub h [1, 2, 3, 0] rfl ?_
        exact ih _ _ hf
      · refine r_iload_n h d_Offers_gainOfSet_20 2 rfl rfl ?_
        refine r_aload_n h d_Offers_gainOfSet_21 0 rfl rfl ?_
        refine r_getR h fd_YC_67_4 cf_Offers fl_Offers_24 d_Offers_gainOfSet_22 ?_
        refine r_iload_n h d_Offers_gainOfSet_25 3 rfl rfl ?_
        refine r_iald h sh_YC_72 d_Offers_gainOfSet_26 hf (fun hf => ?_)
        refine r_iadd h d_Offers_gainOfSet_27 ?_
        refine r_istore_n (ls' := [(2, .int (x2 + (σ.1 72 (Int32.toNatClampNeg x3)))), (0, .ref (ya Z 67)), (1, .int x1), (3, .int x3)]) h d_Offers_gainOfSet_28 rfl (by decide) rfl ?_
        refine r_iinc (ls' := [(3, .int (x3 + (1 : Int32))), (2, .int (x2 + (σ.1 72 (Int32.toNatClampNeg x3)))), (0, .ref (ya Z 67)), (1, .int x1)]) h d_Offers_gainOfSet_29 3 rfl ki_1 (by decide) rfl ?_
        refine r_goto h d_Offers_gainOfSet_32 ?_
        refine r_sub h [2, 3, 1, 0] rfl ?_
        exact ih _ _ hf

set_option maxHeartbeats 4000000 in
theorem m_Offers_gainOfSet {Z : Sy} {σ : St} {res : Int32} {x1 : Int32} (hf : Offers_gainOfSet x1 σ = some res) : Ct YC Z y_Offers_gainOfSet c_Offers_gainOfSet 4 (some .int) 1 [.ref (ya Z 67), .int x1] σ (some (.int res)) σ := by
  refine Ct.of pn_Offers (Nat.le_of_ble_eq_true rfl) rfl (fun Γ h => ?_)
  have h : IsG YC Z R_Offers c_Offers_gainOfSet 4 1 (some .int) (some (.int res)) σ Γ := h
  unfold Offers_gainOfSet at hf
  refine r_iconst h d_Offers_gainOfSet_0 ki_0 ?_
  refine r_istore_n (ls' := [(2, .int (0 : Int32)), (0, .ref (ya Z 67)), (1, .int x1)]) h d_Offers_gainOfSet_1 rfl (by decide) rfl ?_
  refine r_iconst h d_Offers_gainOfSet_2 ki_0 ?_
  refine r_istore_n (ls' := [(3, .int (0 : Int32)), (2, .int (0 : Int32)), (0, .ref (ya Z 67)), (1, .int x1)]) h d_Offers_gainOfSet_3 rfl (by decide) rfl ?_
  refine r_sub h [2, 3, 1, 0] rfl ?_
  exact w_Offers_gainOfSet_L4 h _ _ _ hf

theorem d_Offers_mayBe_0 : decode c_Offers_mayBe 0 = .ok (.iconst 0, 1) ∧ 0 + 1 = 1 := by decide +kernel
theorem d_Offers_mayBe_1 : decode c_Offers_mayBe 1 = .ok (.istore_n 3, 1) ∧ 1 + 1 = 2 := by decide +kernel
theorem d_Offers_mayBe_2 : decode c_Offers_mayBe 2 = .ok (.iconst 0, 1) ∧ 2 + 1 = 3 := by decide +kernel
theorem d_Offers_mayBe_3 : decode c_Offers_mayBe 3 = .ok (.istore 4, 2) ∧ 3 + 2 = 5 := by decide +kernel
theorem d_Offers_mayBe_5 : decode c_Offers_mayBe 5 = .ok (.iconst 0, 1) ∧ 5 + 1 = 6 := by decide +kernel
theorem d_Offers_mayBe_6 : decode c_Offers_mayBe 6 = .ok (.istore 5, 2) ∧ 6 + 2 = 8 := by decide +kernel
theorem d_Offers_mayBe_8 : decode c_Offers_mayBe 8 = .ok (.iload 5, 2) ∧ 8 + 2 = 10 := by decide +kernel
theorem d_Offers_mayBe_10 : decode c_Offers_mayBe 10 = .ok (.aload_n 0, 1) ∧ 10 + 1 = 11 := by decide +kernel
theorem d_Offers_mayBe_11 : decode c_Offers_mayBe 11 = .ok (.getfield 27, 3) ∧ 11 + 3 = 14 := by decide +kernel
theorem d_Offers_mayBe_14 : decode c_Offers_mayBe 14 = .ok (.arraylength, 1) ∧ 14 + 1 = 15 := by decide +kernel
theorem d_Offers_mayBe_15 : decode c_Offers_mayBe 15 = .ok (.if_icmp .ge 17, 3) ∧ 15 + 3 = 18 ∧ ((15 : Nat) : Int) + 17 = ((32 : Nat) : Int) := by decide +kernel
theorem d_Offers_mayBe_18 : decode c_Offers_mayBe 18 = .ok (.aload_n 0, 1) ∧ 18 + 1 = 19 := by decide +kernel
theorem d_Offers_mayBe_19 : decode c_Offers_mayBe 19 = .ok (.getfield 27, 3) ∧ 19 + 3 = 22 := by decide +kernel
theorem d_Offers_mayBe_22 : decode c_Offers_mayBe 22 = .ok (.iload 5, 2) ∧ 22 + 2 = 24 := by decide +kernel
theorem d_Offers_mayBe_24 : decode c_Offers_mayBe 24 = .ok (.iconst 0, 1) ∧ 24 + 1 = 25 := by decide +kernel
theorem d_Offers_mayBe_25 : decode c_Offers_mayBe 25 = .ok (.iastore, 1) ∧ 25 + 1 = 26 := by decide +kernel
theorem d_Offers_mayBe_26 : decode c_Offers_mayBe 26 = .ok (.iinc 5 1, 3) ∧ 26 + 3 = 29 := by decide +kernel
theorem d_Offers_mayBe_29 : decode c_Offers_mayBe 29 = .ok (.goto (-21), 3) ∧ (29 : Int) + (-21) = (8 : Int) := by decide +kernel
theorem d_Offers_mayBe_32 : decode c_Offers_mayBe 32 = .ok (.iconst 0, 1) ∧ 32 + 1 = 33 := by decide +kernel
theorem d_Offers_mayBe_33 : decode c_Offers_mayBe 33 = .ok (.istore 5, 2) ∧ 33 + 2 = 35 := by decide +kernel
theorem d_Offers_mayBe_35 : decode c_Offers_mayBe 35 = .ok (.iload 5, 2) ∧ 35 + 2 = 37 := by decide +kernel
theorem d_Offers_mayBe_37 : decode c_Offers_mayBe 37 = .ok (.aload_n 0, 1) ∧ 37 + 1 = 38 := by decide +kernel
theorem d_Offers_mayBe_38 : decode c_Offers_mayBe 38 = .ok (.getfield 30, 3) ∧ 38 + 3 = 41 := by decide +kernel
theorem d_Offers_mayBe_41 : decode c_Offers_mayBe 41 = .ok (.if_icmp .ge 129, 3) ∧ 41 + 3 = 44 ∧ ((41 : Nat) : Int) + 129 = ((170 : Nat) : Int) := by decide +kernel
theorem d_Offers_mayBe_44 : decode c_Offers_mayBe 44 = .ok (.iload_n 1, 1) ∧ 44 + 1 = 45 := by decide +kernel
theorem d_Offers_mayBe_45 : decode c_Offers_mayBe 45 = .ok (.iload 5, 2) ∧ 45 + 2 = 47 := by decide +kernel
theorem d_Offers_mayBe_47 : decode c_Offers_mayBe 47 = .ok (.ishr, 1) ∧ 47 + 1 = 48 := by decide +kernel
theorem d_Offers_mayBe_48 : decode c_Offers_mayBe 48 = .ok (.iconst 1, 1) ∧ 48 + 1 = 49 := by decide +kernel
theorem d_Offers_mayBe_49 : decode c_Offers_mayBe 49 = .ok (.iand, 1) ∧ 49 + 1 = 50 := by decide +kernel
theorem d_Offers_mayBe_50 : decode c_Offers_mayBe 50 = .ok (.ifCond .ne 6, 3) ∧ 50 + 3 = 53 ∧ ((50 : Nat) : Int) + 6 = ((56 : Nat) : Int) := by decide +kernel
theorem d_Offers_mayBe_53 : decode c_Offers_mayBe 53 = .ok (.goto 111, 3) ∧ (53 : Int) + 111 = (164 : Int) := by decide +kernel
theorem d_Offers_mayBe_56 : decode c_Offers_mayBe 56 = .ok (.iload_n 3, 1) ∧ 56 + 1 = 57 := by decide +kernel
theorem d_Offers_mayBe_57 : decode c_Offers_mayBe 57 = .ok (.aload_n 0, 1) ∧ 57 + 1 = 58 := by decide +kernel
theorem d_Offers_mayBe_58 : decode c_Offers_mayBe 58 = .ok (.getfield 9, 3) ∧ 58 + 3 = 61 := by decide +kernel
theorem d_Offers_mayBe_61 : decode c_Offers_mayBe 61 = .ok (.iload 5, 2) ∧ 61 + 2 = 63 := by decide +kernel
theorem d_Offers_mayBe_63 : decode c_Offers_mayBe 63 = .ok (.iaload, 1) ∧ 63 + 1 = 64 := by decide +kernel
theorem d_Offers_mayBe_64 : decode c_Offers_mayBe 64 = .ok (.ishr, 1) ∧ 64 + 1 = 65 := by decide +kernel
theorem d_Offers_mayBe_65 : decode c_Offers_mayBe 65 = .ok (.iconst 1, 1) ∧ 65 + 1 = 66 := by decide +kernel
theorem d_Offers_mayBe_66 : decode c_Offers_mayBe 66 = .ok (.iand, 1) ∧ 66 + 1 = 67 := by decide +kernel
theorem d_Offers_mayBe_67 : decode c_Offers_mayBe 67 = .ok (.ifCond .ne 18, 3) ∧ 67 + 3 = 70 ∧ ((67 : Nat) : Int) + 18 = ((85 : Nat) : Int) := by decide +kernel
theorem d_Offers_mayBe_70 : decode c_Offers_mayBe 70 = .ok (.iload 4, 2) ∧ 70 + 2 = 72 := by decide +kernel
theorem d_Offers_mayBe_72 : decode c_Offers_mayBe 72 = .ok (.aload_n 0, 1) ∧ 72 + 1 = 73 := by decide +kernel
theorem d_Offers_mayBe_73 : decode c_Offers_mayBe 73 = .ok (.getfield 18, 3) ∧ 73 + 3 = 76 := by decide +kernel
theorem d_Offers_mayBe_76 : decode c_Offers_mayBe 76 = .ok (.iload 5, 2) ∧ 76 + 2 = 78 := by decide +kernel
theorem d_Offers_mayBe_78 : decode c_Offers_mayBe 78 = .ok (.iaload, 1) ∧ 78 + 1 = 79 := by decide +kernel
theorem d_Offers_mayBe_79 : decode c_Offers_mayBe 79 = .ok (.ishr, 1) ∧ 79 + 1 = 80 := by decide +kernel
theorem d_Offers_mayBe_80 : decode c_Offers_mayBe 80 = .ok (.iconst 1, 1) ∧ 80 + 1 = 81 := by decide +kernel
theorem d_Offers_mayBe_81 : decode c_Offers_mayBe 81 = .ok (.iand, 1) ∧ 81 + 1 = 82 := by decide +kernel
theorem d_Offers_mayBe_82 : decode c_Offers_mayBe 82 = .ok (.ifCond .eq 5, 3) ∧ 82 + 3 = 85 ∧ ((82 : Nat) : Int) + 5 = ((87 : Nat) : Int) := by decide +kernel
theorem d_Offers_mayBe_85 : decode c_Offers_mayBe 85 = .ok (.iconst 0, 1) ∧ 85 + 1 = 86 := by decide +kernel
theorem d_Offers_mayBe_86 : decode c_Offers_mayBe 86 = .ok (.ireturn, 1) ∧ 86 + 1 = 87 := by decide +kernel
theorem d_Offers_mayBe_87 : decode c_Offers_mayBe 87 = .ok (.iload_n 3, 1) ∧ 87 + 1 = 88 := by decide +kernel
theorem d_Offers_mayBe_88 : decode c_Offers_mayBe 88 = .ok (.iconst 1, 1) ∧ 88 + 1 = 89 := by decide +kernel
theorem d_Offers_mayBe_89 : decode c_Offers_mayBe 89 = .ok (.aload_n 0, 1) ∧ 89 + 1 = 90 := by decide +kernel
theorem d_Offers_mayBe_90 : decode c_Offers_mayBe 90 = .ok (.getfield 9, 3) ∧ 90 + 3 = 93 := by decide +kernel
theorem d_Offers_mayBe_93 : decode c_Offers_mayBe 93 = .ok (.iload 5, 2) ∧ 93 + 2 = 95 := by decide +kernel
theorem d_Offers_mayBe_95 : decode c_Offers_mayBe 95 = .ok (.iaload, 1) ∧ 95 + 1 = 96 := by decide +kernel
theorem d_Offers_mayBe_96 : decode c_Offers_mayBe 96 = .ok (.ishl, 1) ∧ 96 + 1 = 97 := by decide +kernel
theorem d_Offers_mayBe_97 : decode c_Offers_mayBe 97 = .ok (.ior, 1) ∧ 97 + 1 = 98 := by decide +kernel
theorem d_Offers_mayBe_98 : decode c_Offers_mayBe 98 = .ok (.istore_n 3, 1) ∧ 98 + 1 = 99 := by decide +kernel
theorem d_Offers_mayBe_99 : decode c_Offers_mayBe 99 = .ok (.iload 4, 2) ∧ 99 + 2 = 101 := by decide +kernel
theorem d_Offers_mayBe_101 : decode c_Offers_mayBe 101 = .ok (.iconst 1, 1) ∧ 101 + 1 = 102 := by decide +kernel
theorem d_Offers_mayBe_102 : decode c_Offers_mayBe 102 = .ok (.aload_n 0, 1) ∧ 102 + 1 = 103 := by decide +kernel
theorem d_Offers_mayBe_103 : decode c_Offers_mayBe 103 = .ok (.getfield 18, 3) ∧ 103 + 3 = 106 := by decide +kernel
theorem d_Offers_mayBe_106 : decode c_Offers_mayBe 106 = .ok (.iload 5, 2) ∧ 106 + 2 = 108 := by decide +kernel
theorem d_Offers_mayBe_108 : decode c_Offers_mayBe 108 = .ok (.iaload, 1) ∧ 108 + 1 = 109 := by decide +kernel
theorem d_Offers_mayBe_109 : decode c_Offers_mayBe 109 = .ok (.ishl, 1) ∧ 109 + 1 = 110 := by decide +kernel
theorem d_Offers_mayBe_110 : decode c_Offers_mayBe 110 = .ok (.ior, 1) ∧ 110 + 1 = 111 := by decide +kernel
theorem d_Offers_mayBe_111 : decode c_Offers_mayBe 111 = .ok (.istore 4, 2) ∧ 111 + 2 = 113 := by decide +kernel
theorem d_Offers_mayBe_113 : decode c_Offers_mayBe 113 = .ok (.aload_n 0, 1) ∧ 113 + 1 = 114 := by decide +kernel
theorem d_Offers_mayBe_114 : decode c_Offers_mayBe 114 = .ok (.getfield 27, 3) ∧ 114 + 3 = 117 := by decide +kernel
theorem d_Offers_mayBe_117 : decode c_Offers_mayBe 117 = .ok (.aload_n 0, 1) ∧ 117 + 1 = 118 := by decide +kernel
theorem d_Offers_mayBe_118 : decode c_Offers_mayBe 118 = .ok (.getfield 15, 3) ∧ 118 + 3 = 121 := by decide +kernel
theorem d_Offers_mayBe_121 : decode c_Offers_mayBe 121 = .ok (.iload 5, 2) ∧ 121 + 2 = 123 := by decide +kernel
theorem d_Offers_mayBe_123 : decode c_Offers_mayBe 123 = .ok (.iaload, 1) ∧ 123 + 1 = 124 := by decide +kernel
theorem d_Offers_mayBe_124 : decode c_Offers_mayBe 124 = .ok (.dup2, 1) ∧ 124 + 1 = 125 := by decide +kernel
theorem d_Offers_mayBe_125 : decode c_Offers_mayBe 125 = .ok (.iaload, 1) ∧ 125 + 1 = 126 := by decide +kernel
theorem d_Offers_mayBe_126 : decode c_Offers_mayBe 126 = .ok (.aload_n 0, 1) ∧ 126 + 1 = 127 := by decide +kernel
theorem d_Offers_mayBe_127 : decode c_Offers_mayBe 127 = .ok (.getfield 21, 3) ∧ 127 + 3 = 130 := by decide +kernel
theorem d_Offers_mayBe_130 : decode c_Offers_mayBe 130 = .ok (.iload 5, 2) ∧ 130 + 2 = 132 := by decide +kernel
theorem d_Offers_mayBe_132 : decode c_Offers_mayBe 132 = .ok (.iaload, 1) ∧ 132 + 1 = 133 := by decide +kernel
theorem d_Offers_mayBe_133 : decode c_Offers_mayBe 133 = .ok (.iadd, 1) ∧ 133 + 1 = 134 := by decide +kernel
theorem d_Offers_mayBe_134 : decode c_Offers_mayBe 134 = .ok (.iastore, 1) ∧ 134 + 1 = 135 := by decide +kernel
theorem d_Offers_mayBe_135 : decode c_Offers_mayBe 135 = .ok (.aload_n 0, 1) ∧ 135 + 1 = 136 := by decide +kernel
theorem d_Offers_mayBe_136 : decode c_Offers_mayBe 136 = .ok (.getfield 27, 3) ∧ 136 + 3 = 139 := by decide +kernel
theorem d_Offers_mayBe_139 : decode c_Offers_mayBe 139 = .ok (.aload_n 0, 1) ∧ 139 + 1 = 140 := by decide +kernel
theorem d_Offers_mayBe_140 : decode c_Offers_mayBe 140 = .ok (.getfield 15, 3) ∧ 140 + 3 = 143 := by decide +kernel
theorem d_Offers_mayBe_143 : decode c_Offers_mayBe 143 = .ok (.iload 5, 2) ∧ 143 + 2 = 145 := by decide +kernel
theorem d_Offers_mayBe_145 : decode c_Offers_mayBe 145 = .ok (.iaload, 1) ∧ 145 + 1 = 146 := by decide +kernel
theorem d_Offers_mayBe_146 : decode c_Offers_mayBe 146 = .ok (.iaload, 1) ∧ 146 + 1 = 147 := by decide +kernel
theorem d_Offers_mayBe_147 : decode c_Offers_mayBe 147 = .ok (.aload_n 2, 1) ∧ 147 + 1 = 148 := by decide +kernel
theorem d_Offers_mayBe_148 : decode c_Offers_mayBe 148 = .ok (.getfield 52, 3) ∧ 148 + 3 = 151 := by decide +kernel
theorem d_Offers_mayBe_151 : decode c_Offers_mayBe 151 = .ok (.aload_n 0, 1) ∧ 151 + 1 = 152 := by decide +kernel
theorem d_Offers_mayBe_152 : decode c_Offers_mayBe 152 = .ok (.getfield 15, 3) ∧ 152 + 3 = 155 := by decide +kernel
theorem d_Offers_mayBe_155 : decode c_Offers_mayBe 155 = .ok (.iload 5, 2) ∧ 155 + 2 = 157 := by decide +kernel
theorem d_Offers_mayBe_157 : decode c_Offers_mayBe 157 = .ok (.iaload, 1) ∧ 157 + 1 = 158 := by decide +kernel
theorem d_Offers_mayBe_158 : decode c_Offers_mayBe 158 = .ok (.iaload, 1) ∧ 158 + 1 = 159 := by decide +kernel
theorem d_Offers_mayBe_159 : decode c_Offers_mayBe 159 = .ok (.if_icmp .le 5, 3) ∧ 159 + 3 = 162 ∧ ((159 : Nat) : Int) + 5 = ((164 : Nat) : Int) := by decide +kernel
theorem d_Offers_mayBe_162 : decode c_Offers_mayBe 162 = .ok (.iconst 0, 1) ∧ 162 + 1 = 163 := by decide +kernel
theorem d_Offers_mayBe_163 : decode c_Offers_mayBe 163 = .ok (.ireturn, 1) ∧ 163 + 1 = 164 := by decide +kernel
theorem d_Offers_mayBe_164 : decode c_Offers_mayBe 164 = .ok (.iinc 5 1, 3) ∧ 164 + 3 = 167 := by decide +kernel
theorem d_Offers_mayBe_167 : decode c_Offers_mayBe 167 = .ok (.goto (-132), 3) ∧ (167 : Int) + (-132) = (35 : Int) := by decide +kernel
theorem d_Offers_mayBe_170 : decode c_Offers_mayBe 170 = .ok (.iconst 1, 1) ∧ 170 + 1 = 171 := by decide +kernel
theorem d_Offers_mayBe_171 : decode c_Offers_mayBe 171 = .ok (.ireturn, 1) ∧ 171 + 1 = 172 := by decide +kernel
set_option maxHeartbeats 4000000 in
theorem w_Offers_mayBe_L35 {Z : Sy} {Γ : Nat → List (Nat × Value) → List Value → St → Prop} {res : (Bool × St)} {x1 : Int32} (h : IsG YC Z R_Offers c_Offers_mayBe 6 1 (some .boolean) (some (.int (bi res.1))) res.2 Γ) : ∀ (n : Nat) (x3 : Int32) (x4 : Int32) (x5 : Int32) (σ : St), Offers_mayBe_L35 x1 n x3 x4 x5 σ = some res → Γ 35 [(0, .ref (ya Z 67)), (1, .int x1), (2, .ref (ya Z 1)), (3, .int x3), (4, .int x4), (5, .int x5)] [] σ := by
  intro n
  induction n with
  | zero => intro x3 x4 x5 σ hf; exact absurd hf (by simp [Offers_mayBe_L35])
  | succ n ih =>
    intro x3 x4 x5 σ hf
    rw [Offers_mayBe_L35] at hf
    refine r_iload h d_Offers_mayBe_35 5 rfl ?_
    refine r_aload_n h d_Offers_mayBe_37 0 rfl rfl ?_
    refine r_getI h fd_YC_67_6 cf_Offers fl_Offers_30 d_Offers_mayBe_38 ?_
    refine r_icmp_ge h d_Offers_mayBe_41 hf (fun hf => ?_) (fun hf => ?_)
    · refine r_iconst h d_Offers_mayBe_170 ki_1 ?_
      exact r_zreturn h d_Offers_mayBe_171.1 ((show (1 : Int32) = bi true from rfl).trans (congrArg bi (q_p1 hf))) (q_p2 hf)
    · refine r_iload_n h d_Offers_mayBe_44 1 rfl rfl ?_
      refine r_iload h d_Offers_mayBe_45 5 rfl ?_
      refine r_ishr h d_Offers_mayBe_47 ?_
      refine r_iconst h d_Offers_mayBe_48 ki_1 ?_
      refine r_iand h d_Offers_mayBe_49 ?_
      refine r_if_ne h d_Offers_mayBe_50 hf (fun hf => ?_) (fun hf => ?_)
      · refine r_iload_n h d_Offers_mayBe_56 3 rfl rfl ?_
        refine r_aload_n h d_Offers_mayBe_57 0 rfl rfl ?_
        refine r_getR h fd_YC_67_0 cf_Offers fl_Offers_9 d_Offers_mayBe_58 ?_
        refine r_iload h d_Offers_mayBe_61 5 rfl ?_
        refine r_iald h sh_YC_68 d_Offers_mayBe_63 hf (fun hf => ?_)
        refine r_ishr h d_Offers_mayBe_64 ?_
        refine r_iconst h d_Offers_mayBe_65 ki_1 ?_
        refine r_iand h d_Offers_mayBe_66 ?_
        refine r_if_ne h d_Offers_mayBe_67 hf (fun hf => ?_) (fun hf => ?_)
        · refine r_iconst h d_Offers_mayBe_85 ki_0 ?_
          exact r_zreturn h d_Offers_mayBe_86.1 ((show (0 : Int32) = bi false from rfl).trans (congrArg bi (q_p1 hf))) (q_p2 hf)
        · refine r_iload h d_Offers_mayBe_70 4 rfl ?_
          refine r_aload_n h d_Offers_mayBe_72 0 rfl rfl ?_
          refine r_getR h fd_YC_67_2 cf_Offers fl_Offers_18 d_Offers_mayBe_73 ?_
          refine r_iload h d_Offers_mayBe_76 5 rfl ?_
          refine r_iald h sh_YC_70 d_Offers_mayBe_78 hf (fun hf => ?_)
          refine r_ishr h d_Offers_mayBe_79 ?_
          refine r_iconst h d_Offers_mayBe_80 ki_1 ?_
          refine r_iand h d_Offers_mayBe_81 ?_
          refine r_if_eq h d_Offers_mayBe_82 hf (fun hf => ?_) (fun hf => ?_)
          · refine r_iload_n h d_Offers_mayBe_87 3 rfl rfl ?_
            refine r_iconst h d_Offers_mayBe_88 ki_1 ?_
            refine r_aload_n h d_Offers_mayBe_89 0 rfl rfl ?_
            refine r_getR h fd_YC_67_0 cf_Offers fl_Offers_9 d_Offers_mayBe_90 ?_
            refine r_iload h d_Offers_mayBe_93 5 rfl ?_
            refine r_iald h sh_YC_68 d_Offers_mayBe_95 hf (fun hf => ?_)
            refine r_ishl h d_Offers_mayBe_96 ?_
            refine r_ior h d_Offers_mayBe_97 ?_
            refine r_istore_n (ls' := [(3, .int (x3 ||| ((1 : Int32) <<< ((σ.1 68 (Int32.toNatClampNeg x5)) &&& 31)))), (0, .ref (ya Z 67)), (1, .int x1), (2, .ref (ya Z 1)), (4, .int x4), (5, .int x5)]) h d_Offers_mayBe_98 rfl (by decide) rfl ?_
            refine r_iload h d_Offers_mayBe_99 4 rfl ?_
            refine r_iconst h d_Offers_mayBe_101 ki_1 ?_
            refine r_aload_n h d_Offers_mayBe_102 1 rfl rfl ?_
            refine r_getR h fd_YC_67_2 cf_Offers fl_Offers_18 d_Offers_mayBe_103 ?_
            refine r_iload h d_Offers_mayBe_106 5 rfl ?_
            refine r_iald h sh_YC_70 d_Offers_mayBe_108 hf (fun hf => ?_)
            refine r_ishl h d_Offers_mayBe_109 ?_
            refine r_ior h d_Offers_mayBe_110 ?_
            refine r_istore (ls' := [(4, .int (x4 ||| ((1 : Int32) <<< ((σ.1 70 (Int32.toNatClampNeg x5)) &&& 31)))), (3, .int (x3 ||| ((1 : Int32) <<< ((σ.1 68 (Int32.toNatClampNeg x5)) &&& 31)))), (0, .ref (ya Z 67)), (1, .int x1), (2, .ref (ya Z 1)), (5, .int x5)]) h d_Offers_mayBe_111 (by decide) rfl ?_
            refine r_aload_n h d_Offers_mayBe_113 2 rfl rfl ?_
            refine r_getR h fd_YC_67_5 cf_Offers fl_Offers_27 d_Offers_mayBe_114 ?_
            refine r_aload_n h d_Offers_mayBe_117 2 rfl rfl ?_
            refine r_getR h fd_YC_67_1 cf_Offers fl_Offers_15 d_Offers_mayBe_118 ?_
            refine r_iload h d_Offers_mayBe_121 5 rfl ?_
            refine r_iald h sh_YC_69 d_Offers_mayBe_123 hf (fun hf => ?_)
            refine r_dup2 h d_Offers_mayBe_124 rfl rfl ?_
            refine r_iald h sh_YC_73 d_Offers_mayBe_125 hf (fun hf => ?_)
            refine r_aload_n h d_Offers_mayBe_126 2 rfl rfl ?_
            refine r_getR h fd_YC_67_3 cf_Offers fl_Offers_21 d_Offers_mayBe_127 ?_
            refine r_iload h d_Offers_mayBe_130 5 rfl ?_
            refine r_iald h sh_YC_71 d_Offers_mayBe_132 hf (fun hf => ?_)
            refine r_iadd h d_Offers_mayBe_133 ?_
            refine r_iast h sh_YC_73 d_Offers_mayBe_134 hf (fun hf => ?_)
            refine r_aload_n h d_Offers_mayBe_135 2 rfl rfl ?_
            refine r_getR h fd_YC_67_5 cf_Offers fl_Offers_27 d_Offers_mayBe_136 ?_
            refine r_aload_n h d_Offers_mayBe_139 2 rfl rfl ?_
            refine r_getR h fd_YC_67_1 cf_Offers fl_Offers_15 d_Offers_mayBe_140 ?_
            refine r_iload h d_Offers_mayBe_143 5 rfl ?_
            refine r_ialdv (v := (σ.1 69 (Int32.toNatClampNeg x5))) h sh_YC_69 d_Offers_mayBe_145 hf rfl (fun hf => ?_)
            refine r_iald h sh_YC_73 d_Offers_mayBe_146 hf (fun hf => ?_)
            refine r_aload_n h d_Offers_mayBe_147 4 rfl rfl ?_
            refine r_getR h fd_YC_1_3 cf_Roll fl_Offers_52 d_Offers_mayBe_148 ?_
            refine r_aload_n h d_Offers_mayBe_151 2 rfl rfl ?_
            refine r_getR h fd_YC_67_1 cf_Offers fl_Offers_15 d_Offers_mayBe_152 ?_
            refine r_iload h d_Offers_mayBe_155 5 rfl ?_
            refine r_ialdv (v := (σ.1 69 (Int32.toNatClampNeg x5))) h sh_YC_69 d_Offers_mayBe_157 hf rfl (fun hf => ?_)
            refine r_ialdv (v := (σ.1 5 (Int32.toNatClampNeg (σ.1 69 (Int32.toNatClampNeg x5))))) h sh_YC_5 d_Offers_mayBe_158 hf rfl (fun hf => ?_)
            refine r_icmp_le h d_Offers_mayBe_159 hf (fun hf => ?_) (fun hf => ?_)
            · refine r_iinc (ls' := [(5, .int (x5 + (1 : Int32))), (4, .int (x4 ||| ((1 : Int32) <<< ((σ.1 70 (Int32.toNatClampNeg x5)) &&& 31)))), (3, .int (x3 ||| ((1 : Int32) <<< ((σ.1 68 (Int32.toNatClampNeg x5)) &&& 31)))), (0, .ref (ya Z 67)), (1, .int x1), (2, .ref (ya Z 1))]) h d_Offers_mayBe_164 5 rfl ki_1 (by decide) rfl ?_
              refine r_goto h d_Offers_mayBe_167 ?_
              refine r_sub h [3, 4, 5, 2, 1, 0] rfl ?_
              exact ih _ _ _ _ hf
            · refine r_iconst h d_Offers_mayBe_162 ki_0 ?_
              exact r_zreturn h d_Offers_mayBe_163.1 ((show (0 : Int32) = bi false from rfl).trans (congrArg bi (q_p1 hf))) (q_p2 hf)
          · refine r_iconst h d_Offers_mayBe_85 ki_0 ?_
            exact r_zreturn h d_Offers_mayBe_86.1 ((show (0 : Int32) = bi false from rfl).trans (congrArg bi (q_p1 hf))) (q_p2 hf)
      · refine r_goto h d_Offers_mayBe_53 ?_
        refine r_iinc (ls' := [(5, .int (x5 + (1 : Int32))), (0, .ref (ya Z 67)), (1, .int x1), (2, .ref (ya Z 1)), (3, .int x3), (4, .int x4)]) h d_Offers_mayBe_164 5 rfl ki_1 (by decide) rfl ?_
        refine r_goto h d_Offers_mayBe_167 ?_
        refine r_sub h [1, 2, 3, 4, 5, 0] rfl ?_
        exact ih _ _ _ _ hf

set_option maxHeartbeats 4000000 in
theorem w_Offers_mayBe_L8 {Z : Sy} {Γ : Nat → List (Nat × Value) → List Value → St → Prop} {res : (Bool × St)} {x1 : Int32} {x3 : Int32} {x4 : Int32} (h : IsG YC Z R_Offers c_Offers_mayBe 6 1 (some .boolean) (some (.int (bi res.1))) res.2 Γ) : ∀ (n : Nat) (x5 : Int32) (σ : St), Offers_mayBe_L8 x1 x3 x4 n x5 σ = some res → Γ 8 [(0, .ref (ya Z 67)), (1, .int x1), (2, .ref (ya Z 1)), (3, .int x3), (4, .int x4), (5, .int x5)] [] σ := by
  intro n
  induction n with
  | zero => intro x5 σ hf; exact absurd hf (by simp [Offers_mayBe_L8])
  | succ n ih =>
    intro x5 σ hf
    rw [Offers_mayBe_L8] at hf
    refine r_iload h d_Offers_mayBe_8 5 rfl ?_
    refine r_aload_n h d_Offers_mayBe_10 0 rfl rfl ?_
    refine r_getR h fd_YC_67_5 cf_Offers fl_Offers_27 d_Offers_mayBe_11 ?_
    refine r_alen h sh_YC_73 kn_4 d_Offers_mayBe_14 ?_
    refine r_icmp_ge h d_Offers_mayBe_15 hf (fun hf => ?_) (fun hf => ?_)
    · refine r_iconst h d_Offers_mayBe_32 ki_0 ?_
      refine r_istore (ls' := [(5, .int (0 : Int32)), (0, .ref (ya Z 67)), (1, .int x1), (2, .ref (ya Z 1)), (3, .int x3), (4, .int x4)]) h d_Offers_mayBe_33 (by decide) rfl ?_
      refine r_sub h [1, 2, 3, 4, 5, 0] rfl ?_
      exact w_Offers_mayBe_L35 h _ _ _ _ _ hf
    · refine r_aload_n h d_Offers_mayBe_18 0 rfl rfl ?_
      refine r_getR h fd_YC_67_5 cf_Offers fl_Offers_27 d_Offers_mayBe_19 ?_
      refine r_iload h d_Offers_mayBe_22 5 rfl ?_
      refine r_iconst h d_Offers_mayBe_24 ki_0 ?_
      refine r_iast h sh_YC_73 d_Offers_mayBe_25 hf (fun hf => ?_)
      refine r_iinc (ls' := [(5, .int (x5 + (1 : Int32))), (0, .ref (ya Z 67)), (1, .int x1), (2, .ref (ya Z 1)), (3, .int x3), (4, .int x4)]) h d_Offers_mayBe_26 5 rfl ki_1 (by decide) rfl ?_
      refine r_goto h d_Offers_mayBe_29 ?_
      refine r_sub h [1, 2, 3, 4, 5, 0] rfl ?_
      exact ih _ _ hf

set_option maxHeartbeats 4000000 in
theorem m_Offers_mayBe {Z : Sy} {σ : St} {res : (Bool × St)} {x1 : Int32} (hf : Offers_mayBe x1 σ = some res) : Ct YC Z y_Offers_mayBe c_Offers_mayBe 6 (some .boolean) 1 [.ref (ya Z 67), .int x1, .ref (ya Z 1)] σ (some (.int (bi res.1))) res.2 := by
  refine Ct.of pn_Offers (Nat.le_of_ble_eq_true rfl) rfl (fun Γ h => ?_)
  have h : IsG YC Z R_Offers c_Offers_mayBe 6 1 (some .boolean) (some (.int (bi res.1))) res.2 Γ := h
  unfold Offers_mayBe at hf
  refine r_iconst h d_Offers_mayBe_0 ki_0 ?_
  refine r_istore_n (ls' := [(3, .int (0 : Int32)), (0, .ref (ya Z 67)), (1, .int x1), (2, .ref (ya Z 1))]) h d_Offers_mayBe_1 rfl (by decide) rfl ?_
  refine r_iconst h d_Offers_mayBe_2 ki_0 ?_
  refine r_istore (ls' := [(4, .int (0 : Int32)), (3, .int (0 : Int32)), (0, .ref (ya Z 67)), (1, .int x1), (2, .ref (ya Z 1))]) h d_Offers_mayBe_3 (by decide) rfl ?_
  refine r_iconst h d_Offers_mayBe_5 ki_0 ?_
  refine r_istore (ls' := [(5, .int (0 : Int32)), (4, .int (0 : Int32)), (3, .int (0 : Int32)), (0, .ref (ya Z 67)), (1, .int x1), (2, .ref (ya Z 1))]) h d_Offers_mayBe_6 (by decide) rfl ?_
  refine r_sub h [3, 4, 5, 2, 1, 0] rfl ?_
  exact w_Offers_mayBe_L8 h _ _ _ hf

