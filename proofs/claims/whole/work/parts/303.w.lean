theorem d_M_knows_0 : decode c_M_knows 0 = .ok (.aload_n 0, 1) ∧ 0 + 1 = 1 := by decide +kernel
theorem d_M_knows_1 : decode c_M_knows 1 = .ok (.iload_n 1, 1) ∧ 1 + 1 = 2 := by decide +kernel
theorem d_M_knows_2 : decode c_M_knows 2 = .ok (.invokevirtual 323, 3) ∧ 2 + 3 = 5 := by decide +kernel
theorem d_M_knows_5 : decode c_M_knows 5 = .ok (.ifCond .eq 5, 3) ∧ 5 + 3 = 8 ∧ ((5 : Nat) : Int) + 5 = ((10 : Nat) : Int) := by decide +kernel
theorem d_M_knows_8 : decode c_M_knows 8 = .ok (.iconst (-1), 1) ∧ 8 + 1 = 9 := by decide +kernel
theorem d_M_knows_9 : decode c_M_knows 9 = .ok (.ireturn, 1) ∧ 9 + 1 = 10 := by decide +kernel
theorem d_M_knows_10 : decode c_M_knows 10 = .ok (.iload_n 2, 1) ∧ 10 + 1 = 11 := by decide +kernel
theorem d_M_knows_11 : decode c_M_knows 11 = .ok (.invokestatic 205, 3) ∧ 11 + 3 = 14 := by decide +kernel
theorem d_M_knows_14 : decode c_M_knows 14 = .ok (.ifCond .ne 6, 3) ∧ 14 + 3 = 17 ∧ ((14 : Nat) : Int) + 6 = ((20 : Nat) : Int) := by decide +kernel
theorem d_M_knows_17 : decode c_M_knows 17 = .ok (.bipush (-2), 2) ∧ 17 + 2 = 19 := by decide +kernel
theorem d_M_knows_19 : decode c_M_knows 19 = .ok (.ireturn, 1) ∧ 19 + 1 = 20 := by decide +kernel
theorem d_M_knows_20 : decode c_M_knows 20 = .ok (.aload_n 0, 1) ∧ 20 + 1 = 21 := by decide +kernel
theorem d_M_knows_21 : decode c_M_knows 21 = .ok (.invokevirtual 326, 3) ∧ 21 + 3 = 24 := by decide +kernel
theorem d_M_knows_24 : decode c_M_knows 24 = .ok (.iconst 0, 1) ∧ 24 + 1 = 25 := by decide +kernel
theorem d_M_knows_25 : decode c_M_knows 25 = .ok (.istore_n 3, 1) ∧ 25 + 1 = 26 := by decide +kernel
theorem d_M_knows_26 : decode c_M_knows 26 = .ok (.iconst 0, 1) ∧ 26 + 1 = 27 := by decide +kernel
theorem d_M_knows_27 : decode c_M_knows 27 = .ok (.istore 4, 2) ∧ 27 + 2 = 29 := by decide +kernel
theorem d_M_knows_29 : decode c_M_knows 29 = .ok (.iload 4, 2) ∧ 29 + 2 = 31 := by decide +kernel
theorem d_M_knows_31 : decode c_M_knows 31 = .ok (.aload_n 0, 1) ∧ 31 + 1 = 32 := by decide +kernel
theorem d_M_knows_32 : decode c_M_knows 32 = .ok (.getfield 268, 3) ∧ 32 + 3 = 35 := by decide +kernel
theorem d_M_knows_35 : decode c_M_knows 35 = .ok (.if_icmp .ge 48, 3) ∧ 35 + 3 = 38 ∧ ((35 : Nat) : Int) + 48 = ((83 : Nat) : Int) := by decide +kernel
theorem d_M_knows_38 : decode c_M_knows 38 = .ok (.iload_n 3, 1) ∧ 38 + 1 = 39 := by decide +kernel
theorem d_M_knows_39 : decode c_M_knows 39 = .ok (.aload_n 0, 1) ∧ 39 + 1 = 40 := by decide +kernel
theorem d_M_knows_40 : decode c_M_knows 40 = .ok (.getfield 65, 3) ∧ 40 + 3 = 43 := by decide +kernel
theorem d_M_knows_43 : decode c_M_knows 43 = .ok (.bipush 60, 2) ∧ 43 + 2 = 45 := by decide +kernel
theorem d_M_knows_45 : decode c_M_knows 45 = .ok (.iload_n 1, 1) ∧ 45 + 1 = 46 := by decide +kernel
theorem d_M_knows_46 : decode c_M_knows 46 = .ok (.ifCond .ge 8, 3) ∧ 46 + 3 = 49 ∧ ((46 : Nat) : Int) + 8 = ((54 : Nat) : Int) := by decide +kernel
theorem d_M_knows_49 : decode c_M_knows 49 = .ok (.bipush 6, 2) ∧ 49 + 2 = 51 := by decide +kernel
theorem d_M_knows_51 : decode c_M_knows 51 = .ok (.goto 4, 3) ∧ (51 : Int) + 4 = (55 : Int) := by decide +kernel
theorem d_M_knows_54 : decode c_M_knows 54 = .ok (.iload_n 1, 1) ∧ 54 + 1 = 55 := by decide +kernel
theorem d_M_knows_55 : decode c_M_knows 55 = .ok (.imul, 1) ∧ 55 + 1 = 56 := by decide +kernel
theorem d_M_knows_56 : decode c_M_knows 56 = .ok (.iload 4, 2) ∧ 56 + 2 = 58 := by decide +kernel
theorem d_M_knows_58 : decode c_M_knows 58 = .ok (.iadd, 1) ∧ 58 + 1 = 59 := by decide +kernel
theorem d_M_knows_59 : decode c_M_knows 59 = .ok (.iaload, 1) ∧ 59 + 1 = 60 := by decide +kernel
theorem d_M_knows_60 : decode c_M_knows 60 = .ok (.i2l, 1) ∧ 60 + 1 = 61 := by decide +kernel
theorem d_M_knows_61 : decode c_M_knows 61 = .ok (.lconst 0, 1) ∧ 61 + 1 = 62 := by decide +kernel
theorem d_M_knows_62 : decode c_M_knows 62 = .ok (.iload_n 2, 1) ∧ 62 + 1 = 63 := by decide +kernel
theorem d_M_knows_63 : decode c_M_knows 63 = .ok (.i2l, 1) ∧ 63 + 1 = 64 := by decide +kernel
theorem d_M_knows_64 : decode c_M_knows 64 = .ok (.invokestatic 201, 3) ∧ 64 + 3 = 67 := by decide +kernel
theorem d_M_knows_67 : decode c_M_knows 67 = .ok (.ifCond .eq 7, 3) ∧ 67 + 3 = 70 ∧ ((67 : Nat) : Int) + 7 = ((74 : Nat) : Int) := by decide +kernel
theorem d_M_knows_70 : decode c_M_knows 70 = .ok (.iconst 1, 1) ∧ 70 + 1 = 71 := by decide +kernel
theorem d_M_knows_71 : decode c_M_knows 71 = .ok (.goto 4, 3) ∧ (71 : Int) + 4 = (75 : Int) := by decide +kernel
theorem d_M_knows_74 : decode c_M_knows 74 = .ok (.iconst 0, 1) ∧ 74 + 1 = 75 := by decide +kernel
theorem d_M_knows_75 : decode c_M_knows 75 = .ok (.iadd, 1) ∧ 75 + 1 = 76 := by decide +kernel
theorem d_M_knows_76 : decode c_M_knows 76 = .ok (.istore_n 3, 1) ∧ 76 + 1 = 77 := by decide +kernel
theorem d_M_knows_77 : decode c_M_knows 77 = .ok (.iinc 4 1, 3) ∧ 77 + 3 = 80 := by decide +kernel
theorem d_M_knows_80 : decode c_M_knows 80 = .ok (.goto (-51), 3) ∧ (80 : Int) + (-51) = (29 : Int) := by decide +kernel
theorem d_M_knows_83 : decode c_M_knows 83 = .ok (.iload_n 3, 1) ∧ 83 + 1 = 84 := by decide +kernel
theorem d_M_knows_84 : decode c_M_knows 84 = .ok (.ireturn, 1) ∧ 84 + 1 = 85 := by decide +kernel
set_option maxHeartbeats 4000000 in
theorem w_M_knows_L29 {Z : Sy} {Γ : Nat → List (Nat × Value) → List Value → St → Prop} {res : (Int32 × St)} {x1 : Int32} {x2 : Int32} {σ : St} (h : IsG YM Z R_M c_M_knows 5 5 (some .int) (some (.int res.1)) res.2 Γ) : ∀ (n : Nat) (x3 : Int32) (x4 : Int32), M_knows_L29 x1 x2 σ n x3 x4 = some res → Γ 29 [(0, .ref (ya Z 0)), (1, .int x1), (2, .int x2), (3, .int x3), (4, .int x4)] [] σ := by
  intro n
  induction n with
  | zero => intro x3 x4 hf; exact absurd hf (by simp [M_knows_L29])
  | succ n ih =>
    intro x3 x4 hf
    rw [M_knows_L29] at hf
    refine r_iload h d_M_knows_29 4 rfl ?_
    refine r_aload_n h d_M_knows_31 0 rfl rfl ?_
    refine r_getI h fd_YM_0_17 cf_M fl_M_268 d_M_knows_32 ?_
    refine r_icmp_ge h d_M_knows_35 hf (fun hf => ?_) (fun hf => ?_)
    · refine r_iload_n h d_M_knows_83 3 rfl rfl ?_
      exact r_ireturn h d_M_knows_84.1 (q_p1 hf) (q_p2 hf)
    · refine r_iload_n h d_M_knows_38 3 rfl rfl ?_
      refine r_aload_n h d_M_knows_39 0 rfl rfl ?_
      refine r_getR h fd_YM_0_25 cf_M fl_M_65 d_M_knows_40 ?_
      refine r_bipush h d_M_knows_43 kb_60 ?_
      refine r_iload_n h d_M_knows_45 1 rfl rfl ?_
      refine r_if_ge h d_M_knows_46 hf (fun hf => ?_) (fun hf => ?_)
      · refine r_iload_n h d_M_knows_54 1 rfl rfl ?_
        refine r_imul h d_M_knows_55 ?_
        refine r_iload h d_M_knows_56 4 rfl ?_
        refine r_iadd h d_M_knows_58 ?_
        refine r_iald h sh_YM_19 d_M_knows_59 hf (fun hf => ?_)
        refine r_i2l h d_M_knows_60 ?_
        refine r_lconst h d_M_knows_61 kl_0 ?_
        refine r_iload_n h d_M_knows_62 2 rfl rfl ?_
        refine r_i2l h d_M_knows_63 ?_
        obtain ⟨r64, e64, hf⟩ := q_bind hf
        refine r_callS (As := [.long (Int32.toInt64 (σ.1 19 (Int32.toNatClampNeg (((60 : Int32) * x1) + x4)))), .long (0 : Int64), .long (Int32.toInt64 x2)]) (rest := [.int x3]) h lk_M_201 sk_M_201 d_M_knows_64 (by decide) rfl rfl (Nat.le_of_ble_eq_true rfl) (m_M_in e64) ?_
        refine r_bif_eq h d_M_knows_67 hf (fun hf => ?_) (fun hf => ?_)
        · refine r_iconst h d_M_knows_74 ki_0 ?_
          refine r_iadd h d_M_knows_75 ?_
          refine r_istore_n (ls' := [(3, .int (x3 + (0 : Int32))), (0, .ref (ya Z 0)), (1, .int x1), (2, .int x2), (4, .int x4)]) h d_M_knows_76 rfl (by decide) rfl ?_
          refine r_iinc (ls' := [(4, .int (x4 + (1 : Int32))), (3, .int (x3 + (0 : Int32))), (0, .ref (ya Z 0)), (1, .int x1), (2, .int x2)]) h d_M_knows_77 4 rfl ki_1 (by decide) rfl ?_
          refine r_goto h d_M_knows_80 ?_
          refine r_sub h [2, 3, 4, 1, 0] rfl ?_
          exact ih _ _ hf
        · refine r_iconst h d_M_knows_70 ki_1 ?_
          refine r_goto h d_M_knows_71 ?_
          refine r_iadd h d_M_knows_75 ?_
          refine r_istore_n (ls' := [(3, .int (x3 + (1 : Int32))), (0, .ref (ya Z 0)), (1, .int x1), (2, .int x2), (4, .int x4)]) h d_M_knows_76 rfl (by decide) rfl ?_
          refine r_iinc (ls' := [(4, .int (x4 + (1 : Int32))), (3, .int (x3 + (1 : Int32))), (0, .ref (ya Z 0)), (1, .int x1), (2, .int x2)]) h d_M_knows_77 4 rfl ki_1 (by decide) rfl ?_
          refine r_goto h d_M_knows_80 ?_
          refine r_sub h [2, 3, 4, 1, 0] rfl ?_
          exact ih _ _ hf
      · refine r_bipush h d_M_knows_49 kb_6 ?_
        refine r_goto h d_M_knows_51 ?_
        refine r_imul h d_M_knows_55 ?_
        refine r_iload h d_M_knows_56 4 rfl ?_
        refine r_iadd h d_M_knows_58 ?_
        refine r_iald h sh_YM_19 d_M_knows_59 hf (fun hf => ?_)
        refine r_i2l h d_M_knows_60 ?_
        refine r_lconst h d_M_knows_61 kl_0 ?_
        refine r_iload_n h d_M_knows_62 2 rfl rfl ?_
        refine r_i2l h d_M_knows_63 ?_
        obtain ⟨r64, e64, hf⟩ := q_bind hf
        refine r_callS (As := [.long (Int32.toInt64 (σ.1 19 (Int32.toNatClampNeg (((60 : Int32) * (6 : Int32)) + x4)))), .long (0 : Int64), .long (Int32.toInt64 x2)]) (rest := [.int x3]) h lk_M_201 sk_M_201 d_M_knows_64 (by decide) rfl rfl (Nat.le_of_ble_eq_true rfl) (m_M_in e64) ?_
        refine r_bif_eq h d_M_knows_67 hf (fun hf => ?_) (fun hf => ?_)
        · refine r_iconst h d_M_knows_74 ki_0 ?_
          refine r_iadd h d_M_knows_75 ?_
          refine r_istore_n (ls' := [(3, .int (x3 + (0 : Int32))), (0, .ref (ya Z 0)), (1, .int x1), (2, .int x2), (4, .int x4)]) h d_M_knows_76 rfl (by decide) rfl ?_
          refine r_iinc (ls' := [(4, .int (x4 + (1 : Int32))), (3, .int (x3 + (0 : Int32))), (0, .ref (ya Z 0)), (1, .int x1), (2, .int x2)]) h d_M_knows_77 4 rfl ki_1 (by decide) rfl ?_
          refine r_goto h d_M_knows_80 ?_
          refine r_sub h [2, 3, 4, 1, 0] rfl ?_
          exact ih _ _ hf
        · refine r_iconst h d_M_knows_70 ki_1 ?_
          refine r_goto h d_M_knows_71 ?_
          refine r_iadd h d_M_knows_75 ?_
          refine r_istore_n (ls' := [(3, .int (x3 + (1 : Int32))), (0, .ref (ya Z 0)), (1, .int x1), (2, .int x2), (4, .int x4)]) h d_M_knows_76 rfl (by decide) rfl ?_
          refine r_iinc (ls' := [(4, .int (x4 + (1 : Int32))), (3, .int (x3 + (1 : Int32))), (0, .ref (ya Z 0)), (1, .int x1), (2, .int x2)]) h d_M_knows_77 4 rfl ki_1 (by decide) rfl ?_
          refine r_goto h d_M_knows_80 ?_
          refine r_sub h [2, 3, 4, 1, 0] rfl ?_
          exact ih _ _ hf

set_option maxHeartbeats 4000000 in
theorem m_M_knows {Z : Sy} {σ : St} {res : (Int32 × St)} {x1 : Int32} {x2 : Int32} (hf : M_knows x1 x2 σ = some res) : Ct YM Z y_M_knows c_M_knows 5 (some .int) 5 [.ref (ya Z 0), .int x1, .int x2] σ (some (.int res.1)) res.2 := by
  refine Ct.of pn_M (Nat.le_of_ble_eq_true rfl) rfl (fun Γ h => ?_)
  have h : IsG YM Z R_M c_M_knows 5 5 (some .int) (some (.int res.1)) res.2 Γ := h
  unfold M_knows at hf
  refine r_aload_n h d_M_knows_0 0 rfl rfl ?_
  refine r_iload_n h d_M_knows_1 1 rfl rfl ?_
  obtain ⟨r2, e2, hf⟩ := q_bind hf
  refine r_callV (As := [.int x1]) (rest := []) h sh_YM_0 lk_M_323 vk_M_323 d_M_knows_2 (by decide) rfl rfl (Nat.le_of_ble_eq_true rfl) (m_M_noKnower e2) ?_
  refine r_bif_eq h d_M_knows_5 hf (fun hf => ?_) (fun hf => ?_)
  · refine r_iload_n h d_M_knows_10 2 rfl rfl ?_
    obtain ⟨r11, e11, hf⟩ := q_bind hf
    refine r_callS (As := [.int x2]) (rest := []) h lk_M_205 sk_M_205 d_M_knows_11 (by decide) rfl rfl (Nat.le_of_ble_eq_true rfl) (m_M_isDay e11) ?_
    refine r_bif_ne h d_M_knows_14 hf (fun hf => ?_) (fun hf => ?_)
    · refine r_aload_n h d_M_knows_20 0 rfl rfl ?_
      obtain ⟨q21, e21, hf⟩ := q_bind hf
      refine r_callV (As := []) (rest := []) h sh_YM_0 lk_M_326 vk_M_326 d_M_knows_21 (by decide) rfl rfl (Nat.le_of_ble_eq_true rfl) (m_M_layKnown e21) ?_
      refine r_iconst h d_M_knows_24 ki_0 ?_
      refine r_istore_n (ls' := [(3, .int (0 : Int32)), (0, .ref (ya Z 0)), (1, .int x1), (2, .int x2)]) h d_M_knows_25 rfl (by decide) rfl ?_
      refine r_iconst h d_M_knows_26 ki_0 ?_
      refine r_istore (ls' := [(4, .int (0 : Int32)), (3, .int (0 : Int32)), (0, .ref (ya Z 0)), (1, .int x1), (2, .int x2)]) h d_M_knows_27 (by decide) rfl ?_
      refine r_sub h [2, 3, 4, 1, 0] rfl ?_
      exact w_M_knows_L29 h _ _ _ hf
    · refine r_bipush h d_M_knows_17 kb_m2 ?_
      exact r_ireturn h d_M_knows_19.1 (q_p1 hf) (q_p2 hf)
  · refine r_iconst h d_M_knows_8 ki_m1 ?_
    exact r_ireturn h d_M_knows_9.1 (q_p1 hf) (q_p2 hf)

theorem d_M_letterOf_0 : decode c_M_letterOf 0 = .ok (.iload_n 0, 1) ∧ 0 + 1 = 1 := by decide +kernel
theorem d_M_letterOf_1 : decode c_M_letterOf 1 = .ok (.tableswitch 126 98 121 #[119, 126, 126, 126, 123, 126, 117, 126, 126, 126, 126, 126, 126, 126, 113, 126, 126, 111, 126, 121, 126, 126, 126, 115], 111) ∧ 1 + 111 = 112 := by decide +kernel
theorem d_M_letterOf_112 : decode c_M_letterOf 112 = .ok (.iconst 0, 1) ∧ 112 + 1 = 113 := by decide +kernel
theorem d_M_letterOf_113 : decode c_M_letterOf 113 = .ok (.ireturn, 1) ∧ 113 + 1 = 114 := by decide +kernel
theorem d_M_letterOf_114 : decode c_M_letterOf 114 = .ok (.iconst 1, 1) ∧ 114 + 1 = 115 := by decide +kernel
theorem d_M_letterOf_115 : decode c_M_letterOf 115 = .ok (.ireturn, 1) ∧ 115 + 1 = 116 := by decide +kernel
theorem d_M_letterOf_116 : decode c_M_letterOf 116 = .ok (.iconst 2, 1) ∧ 116 + 1 = 117 := by decide +kernel
theorem d_M_letterOf_117 : decode c_M_letterOf 117 = .ok (.ireturn, 1) ∧ 117 + 1 = 118 := by decide +kernel
theorem d_M_letterOf_118 : decode c_M_letterOf 118 = .ok (.iconst 3, 1) ∧ 118 + 1 = 119 := by decide +kernel
theorem d_M_letterOf_119 : decode c_M_letterOf 119 = .ok (.ireturn, 1) ∧ 119 + 1 = 120 := by decide +kernel
theorem d_M_letterOf_120 : decode c_M_letterOf 120 = .ok (.iconst 4, 1) ∧ 120 + 1 = 121 := by decide +kernel
theorem d_M_letterOf_121 : decode c_M_letterOf 121 = .ok (.ireturn, 1) ∧ 121 + 1 = 122 := by decide +kernel
theorem d_M_letterOf_122 : decode c_M_letterOf 122 = .ok (.iconst 5, 1) ∧ 122 + 1 = 123 := by decide +kernel
theorem d_M_letterOf_123 : decode c_M_letterOf 123 = .ok (.ireturn, 1) ∧ 123 + 1 = 124 := by decide +kernel
theorem d_M_letterOf_124 : decode c_M_letterOf 124 = .ok (.bipush 6, 2) ∧ 124 + 2 = 126 := by decide +kernel
theorem d_M_letterOf_126 : decode c_M_letterOf 126 = .ok (.ireturn, 1) ∧ 126 + 1 = 127 := by decide +kernel
theorem d_M_letterOf_127 : decode c_M_letterOf 127 = .ok (.iconst (-1), 1) ∧ 127 + 1 = 128 := by decide +kernel
theorem d_M_letterOf_128 : decode c_M_letterOf 128 = .ok (.ireturn, 1) ∧ 128 + 1 = 129 := by decide +kernel
theorem sparse_M_letterOf {d : Nat} {ret : Option FieldType} {ov : Option Value} {σ σ' : St} {Z : Sy} {Γ : Nat → List (Nat × Value) → List Value → St → Prop} {ls : List (Nat × Value)} {st : List Value} {x : Int32} (h : IsG YM Z R_M c_M_letterOf 1 d ret ov σ' Γ) (h98 : ¬ x = 98) (h102 : ¬ x = 102) (h104 : ¬ x = 104) (h112 : ¬ x = 112) (h115 : ¬ x = 115) (h117 : ¬ x = 117) (h121 : ¬ x = 121) (k : Γ 127 ls st σ) : Γ 1 ls (.int x :: st) σ := by
  by_cases hq : x.toInt < 98 ∨ 121 < x.toInt
  · exact r_tabD h d_M_letterOf_1.1 hq (by decide) k
  · have key : ∀ c : Int32, x = c → ¬ c.toInt < 98 → ¬ 121 < c.toInt → (#[119, 126, 126, 126, 123, 126, 117, 126, 126, 126, 126, 126, 126, 126, 113, 126, 126, 111, 126, 121, 126, 126, 126, 115] : Array Int)[(c.toInt - 98).toNat]? = some 126 → Γ 1 ls (.int x :: st) σ := fun c e a b g => r_tab (tgt := 127) h c e d_M_letterOf_1.1 ⟨a, b, g, by decide⟩ k
    have hv : x = 99 ∨ x = 100 ∨ x = 101 ∨ x = 103 ∨ x = 105 ∨ x = 106 ∨ x = 107 ∨ x = 108 ∨ x = 109 ∨ x = 110 ∨ x = 111 ∨ x = 113 ∨ x = 114 ∨ x = 116 ∨ x = 118 ∨ x = 119 ∨ x = 120 := by
      have g98 := q_neI h98; have g102 := q_neI h102; have g104 := q_neI h104; have g112 := q_neI h112; have g115 := q_neI h115; have g117 := q_neI h117; have g121 := q_neI h121
      simp only [← Int32.toInt_inj]
      simp at g98 g102 g104 g112 g115 g117 g121 hq ⊢
      omega
    rcases hv with e | e | e | e | e | e | e | e | e | e | e | e | e | e | e | e | e <;> exact key _ e (by decide) (by decide) (by decide)
set_option maxHeartbeats 4000000 in
theorem m_M_letterOf {Z : Sy} {σ : St} {res : Int32} {x0 : Int32} (hf : M_letterOf x0 σ = some res) : Ct YM Z y_M_letterOf c_M_letterOf 1 (some .int) 1 [.int x0] σ (some (.int res)) σ := by
  refine Ct.of pn_M (Nat.le_of_ble_eq_true rfl) rfl (fun Γ h => ?_)
  have h : IsG YM Z R_M c_M_letterOf 1 1 (some .int) (some (.int res)) σ Γ := h
  unfold M_letterOf at hf
  refine r_iload_n h d_M_letterOf_0 0 rfl rfl ?_
  refine q_case hf (fun hq hf => ?_) (fun hn98 hf => ?_)
  · refine r_tab (tgt := 120) (off := 119) h (98 : Int32) hq d_M_letterOf_1.1 (by decide) ?_
    refine r_iconst h d_M_letterOf_120 ki_4 ?_
    exact r_ireturn h d_M_letterOf_121.1 (Option.some.inj hf) rfl
  ·
    refine q_case hf (fun hq hf => ?_) (fun hn102 hf => ?_)
    · refine r_tab (tgt := 124) (off := 123) h (102 : Int32) hq d_M_letterOf_1.1 (by decide) ?_
      refine r_bipush h d_M_letterOf_124 kb_6 ?_
      exact r_ireturn h d_M_letterOf_126.1 (Option.some.inj hf) rfl
    ·
      refine q_case hf (fun hq hf => ?_) (fun hn104 hf => ?_)
      · refine r_tab (tgt := 118) (off := 117) h (104 : Int32) hq d_M_letterOf_1.1 (by decide) ?_
        refine r_iconst h d_M_letterOf_118 ki_3 ?_
        exact r_ireturn h d_M_letterOf_119.1 (Option.some.inj hf) rfl
      ·
        refine q_case hf (fun hq hf => ?_) (fun hn112 hf => ?_)
        · refine r_tab (tgt := 114) (off := 113) h (112 : Int32) hq d_M_letterOf_1.1 (by decide) ?_
          refine r_iconst h d_M_letterOf_114 ki_1 ?_
          exact r_ireturn h d_M_letterOf_115.1 (Option.some.inj hf) rfl
        ·
          refine q_case hf (fun hq hf => ?_) (fun hn115 hf => ?_)
          · refine r_tab (tgt := 112) (off := 111) h (115 : Int32) hq d_M_letterOf_1.1 (by decide) ?_
            refine r_iconst h d_M_letterOf_112 ki_0 ?_
            exact r_ireturn h d_M_letterOf_113.1 (Option.some.inj hf) rfl
          ·
            refine q_case hf (fun hq hf => ?_) (fun hn117 hf => ?_)
            · refine r_tab (tgt := 122) (off := 121) h (117 : Int32) hq d_M_letterOf_1.1 (by decide) ?_
              refine r_iconst h d_M_letterOf_122 ki_5 ?_
              exact r_ireturn h d_M_letterOf_123.1 (Option.some.inj hf) rfl
            ·
              refine q_case hf (fun hq hf => ?_) (fun hn121 hf => ?_)
              · refine r_tab (tgt := 116) (off := 115) h (121 : Int32) hq d_M_letterOf_1.1 (by decide) ?_
                refine r_iconst h d_M_letterOf_116 ki_2 ?_
                exact r_ireturn h d_M_letterOf_117.1 (Option.some.inj hf) rfl
              ·
                refine sparse_M_letterOf h hn98 hn102 hn104 hn112 hn115 hn117 hn121 ?_
                refine r_iconst h d_M_letterOf_127 ki_m1 ?_
                exact r_ireturn h d_M_letterOf_128.1 (Option.some.inj hf) rfl

theorem d_M_isNumber_0 : decode c_M_isNumber 0 = .ok (.iload_n 0, 1) ∧ 0 + 1 = 1 := by decide +kernel
theorem d_M_isNumber_1 : decode c_M_isNumber 1 = .ok (.ifCond .ne 17, 3) ∧ 1 + 3 = 4 ∧ ((1 : Nat) : Int) + 17 = ((18 : Nat) : Int) := by decide +kernel
theorem d_M_isNumber_4 : decode c_M_isNumber 4 = .ok (.iload_n 1, 1) ∧ 4 + 1 = 5 := by decide +kernel
theorem d_M_isNumber_5 : decode c_M_isNumber 5 = .ok (.bipush 10, 2) ∧ 5 + 2 = 7 := by decide +kernel
theorem d_M_isNumber_7 : decode c_M_isNumber 7 = .ok (.if_icmp .gt 7, 3) ∧ 7 + 3 = 10 ∧ ((7 : Nat) : Int) + 7 = ((14 : Nat) : Int) := by decide +kernel
theorem d_M_isNumber_10 : decode c_M_isNumber 10 = .ok (.iconst 1, 1) ∧ 10 + 1 = 11 := by decide +kernel
theorem d_M_isNumber_11 : decode c_M_isNumber 11 = .ok (.goto 73, 3) ∧ (11 : Int) + 73 = (84 : Int) := by decide +kernel
theorem d_M_isNumber_14 : decode c_M_isNumber 14 = .ok (.iconst 0, 1) ∧ 14 + 1 = 15 := by decide +kernel
theorem d_M_isNumber_15 : decode c_M_isNumber 15 = .ok (.goto 69, 3) ∧ (15 : Int) + 69 = (84 : Int) := by decide +kernel
theorem d_M_isNumber_18 : decode c_M_isNumber 18 = .ok (.iload_n 0, 1) ∧ 18 + 1 = 19 := by decide +kernel
theorem d_M_isNumber_19 : decode c_M_isNumber 19 = .ok (.iconst 1, 1) ∧ 19 + 1 = 20 := by decide +kernel
theorem d_M_isNumber_20 : decode c_M_isNumber 20 = .ok (.if_icmp .ne 17, 3) ∧ 20 + 3 = 23 ∧ ((20 : Nat) : Int) + 17 = ((37 : Nat) : Int) := by decide +kernel
theorem d_M_isNumber_23 : decode c_M_isNumber 23 = .ok (.iload_n 1, 1) ∧ 23 + 1 = 24 := by decide +kernel
theorem d_M_isNumber_24 : decode c_M_isNumber 24 = .ok (.bipush 99, 2) ∧ 24 + 2 = 26 := by decide +kernel
theorem d_M_isNumber_26 : decode c_M_isNumber 26 = .ok (.if_icmp .gt 7, 3) ∧ 26 + 3 = 29 ∧ ((26 : Nat) : Int) + 7 = ((33 : Nat) : Int) := by decide +kernel
theorem d_M_isNumber_29 : decode c_M_isNumber 29 = .ok (.iconst 1, 1) ∧ 29 + 1 = 30 := by decide +kernel
theorem d_M_isNumber_30 : decode c_M_isNumber 30 = .ok (.goto 54, 3) ∧ (30 : Int) + 54 = (84 : Int) := by decide +kernel
theorem d_M_isNumber_33 : decode c_M_isNumber 33 = .ok (.iconst 0, 1) ∧ 33 + 1 = 34 := by decide +kernel
theorem d_M_isNumber_34 : decode c_M_isNumber 34 = .ok (.goto 50, 3) ∧ (34 : Int) + 50 = (84 : Int) := by decide +kernel
theorem d_M_isNumber_37 : decode c_M_isNumber 37 = .ok (.iload_n 0, 1) ∧ 37 + 1 = 38 := by decide +kernel
theorem d_M_isNumber_38 : decode c_M_isNumber 38 = .ok (.iconst 2, 1) ∧ 38 + 1 = 39 := by decide +kernel
theorem d_M_isNumber_39 : decode c_M_isNumber 39 = .ok (.if_icmp .ne 16, 3) ∧ 39 + 3 = 42 ∧ ((39 : Nat) : Int) + 16 = ((55 : Nat) : Int) := by decide +kernel
theorem d_M_isNumber_42 : decode c_M_isNumber 42 = .ok (.iload_n 1, 1) ∧ 42 + 1 = 43 := by decide +kernel
theorem d_M_isNumber_43 : decode c_M_isNumber 43 = .ok (.iconst 1, 1) ∧ 43 + 1 = 44 := by decide +kernel
theorem d_M_isNumber_44 : decode c_M_isNumber 44 = .ok (.if_icmp .lt 7, 3) ∧ 44 + 3 = 47 ∧ ((44 : Nat) : Int) + 7 = ((51 : Nat) : Int) := by decide +kernel
theorem d_M_isNumber_47 : decode c_M_isNumber 47 = .ok (.iconst 1, 1) ∧ 47 + 1 = 48 := by decide +kernel
theorem d_M_isNumber_48 : decode c_M_isNumber 48 = .ok (.goto 36, 3) ∧ (48 : Int) + 36 = (84 : Int) := by decide +kernel
theorem d_M_isNumber_51 : decode c_M_isNumber 51 = .ok (.iconst 0, 1) ∧ 51 + 1 = 52 := by decide +kernel
theorem d_M_isNumber_52 : decode c_M_isNumber 52 = .ok (.goto 32, 3) ∧ (52 : Int) + 32 = (84 : Int) := by decide +kernel
theorem d_M_isNumber_55 : decode c_M_isNumber 55 = .ok (.iload_n 0, 1) ∧ 55 + 1 = 56 := by decide +kernel
theorem d_M_isNumber_56 : decode c_M_isNumber 56 = .ok (.iconst 3, 1) ∧ 56 + 1 = 57 := by decide +kernel
theorem d_M_isNumber_57 : decode c_M_isNumber 57 = .ok (.if_icmp .ne 16, 3) ∧ 57 + 3 = 60 ∧ ((57 : Nat) : Int) + 16 = ((73 : Nat) : Int) := by decide +kernel
theorem d_M_isNumber_60 : decode c_M_isNumber 60 = .ok (.iload_n 1, 1) ∧ 60 + 1 = 61 := by decide +kernel
theorem d_M_isNumber_61 : decode c_M_isNumber 61 = .ok (.iconst 2, 1) ∧ 61 + 1 = 62 := by decide +kernel
theorem d_M_isNumber_62 : decode c_M_isNumber 62 = .ok (.if_icmp .gt 7, 3) ∧ 62 + 3 = 65 ∧ ((62 : Nat) : Int) + 7 = ((69 : Nat) : Int) := by decide +kernel
theorem d_M_isNumber_65 : decode c_M_isNumber 65 = .ok (.iconst 1, 1) ∧ 65 + 1 = 66 := by decide +kernel
theorem d_M_isNumber_66 : decode c_M_isNumber 66 = .ok (.goto 18, 3) ∧ (66 : Int) + 18 = (84 : Int) := by decide +kernel
theorem d_M_isNumber_69 : decode c_M_isNumber 69 = .ok (.iconst 0, 1) ∧ 69 + 1 = 70 := by decide +kernel
theorem d_M_isNumber_70 : decode c_M_isNumber 70 = .ok (.goto 14, 3) ∧ (70 : Int) + 14 = (84 : Int) := by decide +kernel
theorem d_M_isNumber_73 : decode c_M_isNumber 73 = .ok (.iload_n 1, 1) ∧ 73 + 1 = 74 := by decide +kernel
theorem d_M_isNumber_74 : decode c_M_isNumber 74 = .ok (.bipush 7, 2) ∧ 74 + 2 = 76 := by decide +kernel
theorem d_M_isNumber_76 : decode c_M_isNumber 76 = .ok (.if_icmp .gt 7, 3) ∧ 76 + 3 = 79 ∧ ((76 : Nat) : Int) + 7 = ((83 : Nat) : Int) := by decide +kernel
theorem d_M_isNumber_79 : decode c_M_isNumber 79 = .ok (.iconst 1, 1) ∧ 79 + 1 = 80 := by decide +kernel
theorem d_M_isNumber_80 : decode c_M_isNumber 80 = .ok (.goto 4, 3) ∧ (80 : Int) + 4 = (84 : Int) := by decide +kernel
theorem d_M_isNumber_83 : decode c_M_isNumber 83 = .ok (.iconst 0, 1) ∧ 83 + 1 = 84 := by decide +kernel
theorem d_M_isNumber_84 : decode c_M_isNumber 84 = .ok (.ireturn, 1) ∧ 84 + 1 = 85 := by decide +kernel
set_option maxHeartbeats 4000000 in
theorem m_M_isNumber {Z : Sy} {σ : St} {res : Bool} {x0 : Int32} {x1 : Int32} (hf : M_isNumber x0 x1 σ = some res) : Ct YM Z y_M_isNumber c_M_isNumber 2 (some .boolean) 1 [.int x0, .int x1] σ (some (.int (bi res))) σ := by
  refine Ct.of pn_M (Nat.le_of_ble_eq_true rfl) rfl (fun Γ h => ?_)
  have h : IsG YM Z R_M c_M_isNumber 2 1 (some .boolean) (some (.int (bi res))) σ Γ := h
  unfold M_isNumber at hf
  refine r_iload_n h d_M_isNumber_0 0 rfl rfl ?_
  refine r_if_ne h d_M_isNumber_1 hf (fun hf => ?_) (fun hf => ?_)
  · refine r_iload_n h d_M_isNumber_18 0 rfl rfl ?_
    refine r_iconst h d_M_isNumber_19 ki_1 ?_
    refine r_icmp_ne h d_M_isNumber_20 hf (fun hf => ?_) (fun hf => ?_)
    · refine r_iload_n h d_M_isNumber_37 0 rfl rfl ?_
      refine r_iconst h d_M_isNumber_38 ki_2 ?_
      refine r_icmp_ne h d_M_isNumber_39 hf (fun hf => ?_) (fun hf => ?_)
      · refine r_iload_n h d_M_isNumber_55 0 rfl rfl ?_
        refine r_iconst h d_M_isNumber_56 ki_3 ?_
        refine r_icmp_ne h d_M_isNumber_57 hf (fun hf => ?_) (fun hf => ?_)
        · refine r_iload_n h d_M_isNumber_73 1 rfl rfl ?_
          refine r_bipush h d_M_isNumber_74 kb_7 ?_
          refine r_icmp_gt h d_M_isNumber_76 hf (fun hf => ?_) (fun hf => ?_)
          · refine r_iconst h d_M_isNumber_83 ki_0 ?_
            exact r_zreturn h d_M_isNumber_84.1 ((show (0 : Int32) = bi false from rfl).trans (congrArg bi (Option.some.inj hf))) rfl
          · refine r_iconst h d_M_isNumber_79 ki_1 ?_
            refine r_goto h d_M_isNumber_80 ?_
            exact r_zreturn h d_M_isNumber_84.1 ((show (1 : Int32) = bi true from rfl).trans (congrArg bi (Option.some.inj hf))) rfl
        · refine r_iload_n h d_M_isNumber_60 1 rfl rfl ?_
          refine r_iconst h d_M_isNumber_61 ki_2 ?_
          refine r_icmp_gt h d_M_isNumber_62 hf (fun hf => ?_) (fun hf => ?_)
          · refine r_iconst h d_M_isNumber_69 ki_0 ?_
            refine r_goto h d_M_isNumber_70 ?_
            exact r_zreturn h d_M_isNumber_84.1 ((show (0 : Int32) = bi false from rfl).trans (congrArg bi (Option.some.inj hf))) rfl
          · refine r_iconst h d_M_isNumber_65 ki_1 ?_
            refine r_goto h d_M_isNumber_66 ?_
            exact r_zreturn h d_M_isNumber_84.1 ((show (1 : Int32) = bi true from rfl).trans (congrArg bi (Option.some.inj hf))) rfl
      · refine r_iload_n h d_M_isNumber_42 1 rfl rfl ?_
        refine r_iconst h d_M_isNumber_43 ki_1 ?_
        refine r_icmp_lt h d_M_isNumber_44 hf (fun hf => ?_) (fun hf => ?_)
        · refine r_iconst h d_M_isNumber_51 ki_0 ?_
          refine r_goto h d_M_isNumber_52 ?_
          exact r_zreturn h d_M_isNumber_84.1 ((show (0 : Int32) = bi false from rfl).trans (congrArg bi (Option.some.inj hf))) rfl
        · refine r_iconst h d_M_isNumber_47 ki_1 ?_
          refine r_goto h d_M_isNumber_48 ?_
          exact r_zreturn h d_M_isNumber_84.1 ((show (1 : Int32) = bi true from rfl).trans (congrArg bi (Option.some.inj hf))) rfl
    · refine r_iload_n h d_M_isNumber_23 1 rfl rfl ?_
      refine r_bipush h d_M_isNumber_24 kb_99 ?_
      refine r_icmp_gt h d_M_isNumber_26 hf (fun hf => ?_) (fun hf => ?_)
      · refine r_iconst h d_M_isNumber_33 ki_0 ?_
        refine r_goto h d_M_isNumber_34 ?_
        exact r_zreturn h d_M_isNumber_84.1 ((show (0 : Int32) = bi false from rfl).trans (congrArg bi (Option.some.inj hf))) rfl
      · refine r_iconst h d_M_isNumber_29 ki_1 ?_
        refine r_goto h d_M_isNumber_30 ?_
        exact r_zreturn h d_M_isNumber_84.1 ((show (1 : Int32) = bi true from rfl).trans (congrArg bi (Option.some.inj hf))) rfl
  · refine r_iload_n h d_M_isNumber_4 1 rfl rfl ?_
    refine r_bipush h d_M_isNumber_5 kb_10 ?_
    refine r_icmp_gt h d_M_isNumber_7 hf (fun hf => ?_) (fun hf => ?_)
    · refine r_iconst h d_M_isNumber_14 ki_0 ?_
      refine r_goto h d_M_isNumber_15 ?_
      exact r_zreturn h d_M_isNumber_84.1 ((show (0 : Int32) = bi false from rfl).trans (congrArg bi (Option.some.inj hf))) rfl
    · refine r_iconst h d_M_isNumber_10 ki_1 ?_
      refine r_goto h d_M_isNumber_11 ?_
      exact r_zreturn h d_M_isNumber_84.1 ((show (1 : Int32) = bi true from rfl).trans (congrArg bi (Option.some.inj hf))) rfl

theorem d_M_read_0 : decode c_M_read 0 = .ok (.aload_n 0, 1) ∧ 0 + 1 = 1 := by decide +kernel
theorem d_M_read_1 : decode c_M_read 1 = .ok (.iconst 0, 1) ∧ 1 + 1 = 2 := by decide +kernel
theorem d_M_read_2 : decode c_M_read 2 = .ok (.putfield 329, 3) ∧ 2 + 3 = 5 := by decide +kernel
theorem d_M_read_5 : decode c_M_read 5 = .ok (.iconst 0, 1) ∧ 5 + 1 = 6 := by decide +kernel
theorem d_M_read_6 : decode c_M_read 6 = .ok (.istore_n 3, 1) ∧ 6 + 1 = 7 := by decide +kernel
theorem d_M_read_7 : decode c_M_read 7 = .ok (.iconst 1, 1) ∧ 7 + 1 = 8 := by decide +kernel
theorem d_M_read_8 : decode c_M_read 8 = .ok (.istore 4, 2) ∧ 8 + 2 = 10 := by decide +kernel
theorem d_M_read_10 : decode c_M_read 10 = .ok (.iload 4, 2) ∧ 10 + 2 = 12 := by decide +kernel
theorem d_M_read_12 : decode c_M_read 12 = .ok (.ifCond .eq 198, 3) ∧ 12 + 3 = 15 ∧ ((12 : Nat) : Int) + 198 = ((210 : Nat) : Int) := by decide +kernel
theorem d_M_read_15 : decode c_M_read 15 = .ok (.iload_n 3, 1) ∧ 15 + 1 = 16 := by decide +kernel
theorem d_M_read_16 : decode c_M_read 16 = .ok (.iload_n 2, 1) ∧ 16 + 1 = 17 := by decide +kernel
theorem d_M_read_17 : decode c_M_read 17 = .ok (.if_icmp .ne 5, 3) ∧ 17 + 3 = 20 ∧ ((17 : Nat) : Int) + 5 = ((22 : Nat) : Int) := by decide +kernel
theorem d_M_read_20 : decode c_M_read 20 = .ok (.iload_n 2, 1) ∧ 20 + 1 = 21 := by decide +kernel
theorem d_M_read_21 : decode c_M_read 21 = .ok (.ireturn, 1) ∧ 21 + 1 = 22 := by decide +kernel
theorem d_M_read_22 : decode c_M_read 22 = .ok (.aload_n 0, 1) ∧ 22 + 1 = 23 := by decide +kernel
theorem d_M_read_23 : decode c_M_read 23 = .ok (.getfield 191, 3) ∧ 23 + 3 = 26 := by decide +kernel
theorem d_M_read_26 : decode c_M_read 26 = .ok (.iload_n 1, 1) ∧ 26 + 1 = 27 := by decide +kernel
theorem d_M_read_27 : decode c_M_read 27 = .ok (.iload_n 3, 1) ∧ 27 + 1 = 28 := by decide +kernel
theorem d_M_read_28 : decode c_M_read 28 = .ok (.iadd, 1) ∧ 28 + 1 = 29 := by decide +kernel
theorem d_M_read_29 : decode c_M_read 29 = .ok (.iaload, 1) ∧ 29 + 1 = 30 := by decide +kernel
theorem d_M_read_30 : decode c_M_read 30 = .ok (.invokestatic 332, 3) ∧ 30 + 3 = 33 := by decide +kernel
theorem d_M_read_33 : decode c_M_read 33 = .ok (.istore 5, 2) ∧ 33 + 2 = 35 := by decide +kernel
theorem d_M_read_35 : decode c_M_read 35 = .ok (.iload 5, 2) ∧ 35 + 2 = 37 := by decide +kernel
theorem d_M_read_37 : decode c_M_read 37 = .ok (.ifCond .ge 5, 3) ∧ 37 + 3 = 40 ∧ ((37 : Nat) : Int) + 5 = ((42 : Nat) : Int) := by decide +kernel
theorem d_M_read_40 : decode c_M_read 40 = .ok (.iload_n 3, 1) ∧ 40 + 1 = 41 := by decide +kernel
theorem d_M_read_41 : decode c_M_read 41 = .ok (.ireturn, 1) ∧ 41 + 1 = 42 := by decide +kernel
theorem d_M_read_42 : decode c_M_read 42 = .ok (.iinc 3 1, 3) ∧ 42 + 3 = 45 := by decide +kernel
theorem d_M_read_45 : decode c_M_read 45 = .ok (.iload_n 3, 1) ∧ 45 + 1 = 46 := by decide +kernel
theorem d_M_read_46 : decode c_M_read 46 = .ok (.istore 6, 2) ∧ 46 + 2 = 48 := by decide +kernel
theorem d_M_read_48 : decode c_M_read 48 = .ok (.iconst 0, 1) ∧ 48 + 1 = 49 := by decide +kernel
theorem d_M_read_49 : decode c_M_read 49 = .ok (.istore 7, 2) ∧ 49 + 2 = 51 := by decide +kernel
theorem d_M_read_51 : decode c_M_read 51 = .ok (.iload_n 3, 1) ∧ 51 + 1 = 52 := by decide +kernel
theorem d_M_read_52 : decode c_M_read 52 = .ok (.iload_n 2, 1) ∧ 52 + 1 = 53 := by decide +kernel
theorem d_M_read_53 : decode c_M_read 53 = .ok (.if_icmp .ge 57, 3) ∧ 53 + 3 = 56 ∧ ((53 : Nat) : Int) + 57 = ((110 : Nat) : Int) := by decide +kernel
theorem d_M_read_56 : decode c_M_read 56 = .ok (.iload_n 3, 1) ∧ 56 + 1 = 57 := by decide +kernel
theorem d_M_read_57 : decode c_M_read 57 = .ok (.iload 6, 2) ∧ 57 + 2 = 59 := by decide +kernel
theorem d_M_read_59 : decode c_M_read 59 = .ok (.iconst 4, 1) ∧ 59 + 1 = 60 := by decide +kernel
theorem d_M_read_60 : decode c_M_read 60 = .ok (.iadd, 1) ∧ 60 + 1 = 61 := by decide +kernel
theorem d_M_read_61 : decode c_M_read 61 = .ok (.if_icmp .ge 49, 3) ∧ 61 + 3 = 64 ∧ ((61 : Nat) : Int) + 49 = ((110 : Nat) : Int) := by decide +kernel
theorem d_M_read_64 : decode c_M_read 64 = .ok (.aload_n 0, 1) ∧ 64 + 1 = 65 := by decide +kernel
theorem d_M_read_65 : decode c_M_read 65 = .ok (.getfield 191, 3) ∧ 65 + 3 = 68 := by decide +kernel
theorem d_M_read_68 : decode c_M_read 68 = .ok (.iload_n 1, 1) ∧ 68 + 1 = 69 := by decide +kernel
theorem d_M_read_69 : decode c_M_read 69 = .ok (.iload_n 3, 1) ∧ 69 + 1 = 70 := by decide +kernel
theorem d_M_read_70 : decode c_M_read 70 = .ok (.iadd, 1) ∧ 70 + 1 = 71 := by decide +kernel
theorem d_M_read_71 : decode c_M_read 71 = .ok (.iaload, 1) ∧ 71 + 1 = 72 := by decide +kernel
theorem d_M_read_72 : decode c_M_read 72 = .ok (.i2l, 1) ∧ 72 + 1 = 73 := by decide +kernel
theorem d_M_read_73 : decode c_M_read 73 = .ok (.ldc2_w 335, 3) ∧ 73 + 3 = 76 := by decide +kernel
theorem d_M_read_76 : decode c_M_read 76 = .ok (.ldc2_w 337, 3) ∧ 76 + 3 = 79 := by decide +kernel
theorem d_M_read_79 : decode c_M_read 79 = .ok (.invokestatic 201, 3) ∧ 79 + 3 = 82 := by decide +kernel
theorem d_M_read_82 : decode c_M_read 82 = .ok (.ifCond .eq 28, 3) ∧ 82 + 3 = 85 ∧ ((82 : Nat) : Int) + 28 = ((110 : Nat) : Int) := by decide +kernel
theorem d_M_read_85 : decode c_M_read 85 = .ok (.bipush 10, 2) ∧ 85 + 2 = 87 := by decide +kernel
theorem d_M_read_87 : decode c_M_read 87 = .ok (.iload 7, 2) ∧ 87 + 2 = 89 := by decide +kernel
theorem d_M_read_89 : decode c_M_read 89 = .ok (.imul, 1) ∧ 89 + 1 = 90 := by decide +kernel
theorem d_M_read_90 : decode c_M_read 90 = .ok (.aload_n 0, 1) ∧ 90 + 1 = 91 := by decide +kernel
theorem d_M_read_91 : decode c_M_read 91 = .ok (.getfield 191, 3) ∧ 91 + 3 = 94 := by decide +kernel
theorem d_M_read_94 : decode c_M_read 94 = .ok (.iload_n 1, 1) ∧ 94 + 1 = 95 := by decide +kernel
theorem d_M_read_95 : decode c_M_read 95 = .ok (.iload_n 3, 1) ∧ 95 + 1 = 96 := by decide +kernel
theorem d_M_read_96 : decode c_M_read 96 = .ok (.iadd, 1) ∧ 96 + 1 = 97 := by decide +kernel
theorem d_M_read_97 : decode c_M_read 97 = .ok (.iaload, 1) ∧ 97 + 1 = 98 := by decide +kernel
theorem d_M_read_98 : decode c_M_read 98 = .ok (.iadd, 1) ∧ 98 + 1 = 99 := by decide +kernel
theorem d_M_read_99 : decode c_M_read 99 = .ok (.bipush 48, 2) ∧ 99 + 2 = 101 := by decide +kernel
theorem d_M_read_101 : decode c_M_read 101 = .ok (.isub, 1) ∧ 101 + 1 = 102 := by decide +kernel
theorem d_M_read_102 : decode c_M_read 102 = .ok (.istore 7, 2) ∧ 102 + 2 = 104 := by decide +kernel
theorem d_M_read_104 : decode c_M_read 104 = .ok (.iinc 3 1, 3) ∧ 104 + 3 = 107 := by decide +kernel
theorem d_M_read_107 : decode c_M_read 107 = .ok (.goto (-56), 3) ∧ (107 : Int) + (-56) = (51 : Int) := by decide +kernel
theorem d_M_read_110 : decode c_M_read 110 = .ok (.iload_n 3, 1) ∧ 110 + 1 = 111 := by decide +kernel
theorem d_M_read_111 : decode c_M_read 111 = .ok (.iload 6, 2) ∧ 111 + 2 = 113 := by decide +kernel
theorem d_M_read_113 : decode c_M_read 113 = .ok (.if_icmp .ne 5, 3) ∧ 113 + 3 = 116 ∧ ((113 : Nat) : Int) + 5 = ((118 : Nat) : Int) := by decide +kernel
theorem d_M_read_116 : decode c_M_read 116 = .ok (.iload_n 3, 1) ∧ 116 + 1 = 117 := by decide +kernel
theorem d_M_read_117 : decode c_M_read 117 = .ok (.ireturn, 1) ∧ 117 + 1 = 118 := by decide +kernel
theorem d_M_read_118 : decode c_M_read 118 = .ok (.iload 5, 2) ∧ 118 + 2 = 120 := by decide +kernel
theorem d_M_read_120 : decode c_M_read 120 = .ok (.iload 7, 2) ∧ 120 + 2 = 122 := by decide +kernel
theorem d_M_read_122 : decode c_M_read 122 = .ok (.invokestatic 339, 3) ∧ 122 + 3 = 125 := by decide +kernel
theorem d_M_read_125 : decode c_M_read 125 = .ok (.ifCond .ne 6, 3) ∧ 125 + 3 = 128 ∧ ((125 : Nat) : Int) + 6 = ((131 : Nat) : Int) := by decide +kernel
theorem d_M_read_128 : decode c_M_read 128 = .ok (.iload 6, 2) ∧ 128 + 2 = 130 := by decide +kernel
theorem d_M_read_130 : decode c_M_read 130 = .ok (.ireturn, 1) ∧ 130 + 1 = 131 := by decide +kernel
theorem d_M_read_131 : decode c_M_read 131 = .ok (.aload_n 0, 1) ∧ 131 + 1 = 132 := by decide +kernel
theorem d_M_read_132 : decode c_M_read 132 = .ok (.getfield 86, 3) ∧ 132 + 3 = 135 := by decide +kernel
theorem d_M_read_135 : decode c_M_read 135 = .ok (.aload_n 0, 1) ∧ 135 + 1 = 136 := by decide +kernel
theorem d_M_read_136 : decode c_M_read 136 = .ok (.getfield 329, 3) ∧ 136 + 3 = 139 := by decide +kernel
theorem d_M_read_139 : decode c_M_read 139 = .ok (.iload 5, 2) ∧ 139 + 2 = 141 := by decide +kernel
theorem d_M_read_141 : decode c_M_read 141 = .ok (.iastore, 1) ∧ 141 + 1 = 142 := by decide +kernel
theorem d_M_read_142 : decode c_M_read 142 = .ok (.aload_n 0, 1) ∧ 142 + 1 = 143 := by decide +kernel
theorem d_M_read_143 : decode c_M_read 143 = .ok (.getfield 89, 3) ∧ 143 + 3 = 146 := by decide +kernel
theorem d_M_read_146 : decode c_M_read 146 = .ok (.aload_n 0, 1) ∧ 146 + 1 = 147 := by decide +kernel
theorem d_M_read_147 : decode c_M_read 147 = .ok (.getfield 329, 3) ∧ 147 + 3 = 150 := by decide +kernel
theorem d_M_read_150 : decode c_M_read 150 = .ok (.iload 7, 2) ∧ 150 + 2 = 152 := by decide +kernel
theorem d_M_read_152 : decode c_M_read 152 = .ok (.iastore, 1) ∧ 152 + 1 = 153 := by decide +kernel
theorem d_M_read_153 : decode c_M_read 153 = .ok (.aload_n 0, 1) ∧ 153 + 1 = 154 := by decide +kernel
theorem d_M_read_154 : decode c_M_read 154 = .ok (.dup, 1) ∧ 154 + 1 = 155 := by decide +kernel
theorem d_M_read_155 : decode c_M_read 155 = .ok (.getfield 329, 3) ∧ 155 + 3 = 158 := by decide +kernel
theorem d_M_read_158 : decode c_M_read 158 = .ok (.iconst 1, 1) ∧ 158 + 1 = 159 := by decide +kernel
theorem d_M_read_159 : decode c_M_read 159 = .ok (.iadd, 1) ∧ 159 + 1 = 160 := by decide +kernel
theorem d_M_read_160 : decode c_M_read 160 = .ok (.putfield 329, 3) ∧ 160 + 3 = 163 := by decide +kernel
theorem d_M_read_163 : decode c_M_read 163 = .ok (.iload_n 3, 1) ∧ 163 + 1 = 164 := by decide +kernel
theorem d_M_read_164 : decode c_M_read 164 = .ok (.iload_n 2, 1) ∧ 164 + 1 = 165 := by decide +kernel
theorem d_M_read_165 : decode c_M_read 165 = .ok (.if_icmp .ge 7, 3) ∧ 165 + 3 = 168 ∧ ((165 : Nat) : Int) + 7 = ((172 : Nat) : Int) := by decide +kernel
theorem d_M_read_168 : decode c_M_read 168 = .ok (.iconst 1, 1) ∧ 168 + 1 = 169 := by decide +kernel
theorem d_M_read_169 : decode c_M_read 169 = .ok (.goto 4, 3) ∧ (169 : Int) + 4 = (173 : Int) := by decide +kernel
theorem d_M_read_172 : decode c_M_read 172 = .ok (.iconst 0, 1) ∧ 172 + 1 = 173 := by decide +kernel
theorem d_M_read_173 : decode c_M_read 173 = .ok (.istore 4, 2) ∧ 173 + 2 = 175 := by decide +kernel
theorem d_M_read_175 : decode c_M_read 175 = .ok (.iload 4, 2) ∧ 175 + 2 = 177 := by decide +kernel
theorem d_M_read_177 : decode c_M_read 177 = .ok (.ifCond .eq 30, 3) ∧ 177 + 3 = 180 ∧ ((177 : Nat) : Int) + 30 = ((207 : Nat) : Int) := by decide +kernel
theorem d_M_read_180 : decode c_M_read 180 = .ok (.aload_n 0, 1) ∧ 180 + 1 = 181 := by decide +kernel
theorem d_M_read_181 : decode c_M_read 181 = .ok (.getfield 191, 3) ∧ 181 + 3 = 184 := by decide +kernel
theorem d_M_read_184 : decode c_M_read 184 = .ok (.iload_n 1, 1) ∧ 184 + 1 = 185 := by decide +kernel
theorem d_M_read_185 : decode c_M_read 185 = .ok (.iload_n 3, 1) ∧ 185 + 1 = 186 := by decide +kernel
theorem d_M_read_186 : decode c_M_read 186 = .ok (.iadd, 1) ∧ 186 + 1 = 187 := by decide +kernel
theorem d_M_read_187 : decode c_M_read 187 = .ok (.iaload, 1) ∧ 187 + 1 = 188 := by decide +kernel
theorem d_M_read_188 : decode c_M_read 188 = .ok (.bipush 59, 2) ∧ 188 + 2 = 190 := by decide +kernel
theorem d_M_read_190 : decode c_M_read 190 = .ok (.if_icmp .ne 12, 3) ∧ 190 + 3 = 193 ∧ ((190 : Nat) : Int) + 12 = ((202 : Nat) : Int) := by decide +kernel
theorem d_M_read_193 : decode c_M_read 193 = .ok (.aload_n 0, 1) ∧ 193 + 1 = 194 := by decide +kernel
theorem d_M_read_194 : decode c_M_read 194 = .ok (.getfield 329, 3) ∧ 194 + 3 = 197 := by decide +kernel
theorem d_M_read_197 : decode c_M_read 197 = .ok (.bipush 6, 2) ∧ 197 + 2 = 199 := by decide +kernel
theorem d_M_read_199 : decode c_M_read 199 = .ok (.if_icmp .ne 5, 3) ∧ 199 + 3 = 202 ∧ ((199 : Nat) : Int) + 5 = ((204 : Nat) : Int) := by decide +kernel
theorem d_M_read_202 : decode c_M_read 202 = .ok (.iload_n 3, 1) ∧ 202 + 1 = 203 := by decide +kernel
theorem d_M_read_203 : decode c_M_read 203 = .ok (.ireturn, 1) ∧ 203 + 1 = 204 := by decide +kernel
theorem d_M_read_204 : decode c_M_read 204 = .ok (.iinc 3 1, 3) ∧ 204 + 3 = 207 := by decide +kernel
theorem d_M_read_207 : decode c_M_read 207 = .ok (.goto (-197), 3) ∧ (207 : Int) + (-197) = (10 : Int) := by decide +kernel
theorem d_M_read_210 : decode c_M_read 210 = .ok (.iconst (-1), 1) ∧ 210 + 1 = 211 := by decide +kernel
theorem d_M_read_211 : decode c_M_read 211 = .ok (.ireturn, 1) ∧ 211 + 1 = 212 := by decide +kernel
set_option maxHeartbeats 4000000 in
theorem w_M_read_L51 {Z : Sy} {Γ : Nat → List (Nat × Value) → List Value → St → Prop} {res : (Int32 × St)} {x1 : Int32} {x2 : Int32} {x5 : Int32} {x6 : Int32} {σ : St} {k10 : Int32 → Int32 → St → Option (Int32 × St)} (h : IsG YM Z R_M c_M_read 8 2 (some .int) (some (.int res.1)) res.2 Γ) (hk10 : ∀ (x3 : Int32) (x4 : Int32) (σ : St), k10 x3 x4 σ = some res → Γ 10 [(0, .ref (ya Z 0)), (1, .int x1), (2, .int x2), (3, .int x3), (4, .int x4)] [] σ) : ∀ (n : Nat) (x3 : Int32) (x7 : Int32), M_read_L51 x1 x2 x5 x6 σ k10 n x3 x7 = some res → Γ 51 [(0, .ref (ya Z 0)), (1, .int x1), (2, .int x2), (3, .int x3), (5, .int x5), (6, .int x6), (7, .int x7)] [] σ := by
  intro n
  induction n with
  | zero => intro x3 x7 hf; exact absurd hf (by simp [M_read_L51])
  | succ n ih =>
    intro x3 x7 hf
    rw [M_read_L51] at hf
    refine r_iload_n h d_M_read_51 3 rfl rfl ?_
    refine r_iload_n h d_M_read_52 2 rfl rfl ?_
    refine r_icmp_ge h d_M_read_53 hf (fun hf => ?_) (fun hf => ?_)
    · refine r_iload_n h d_M_read_110 3 rfl rfl ?_
      refine r_iload h d_M_read_111 5 rfl ?_
      refine r_icmp_ne h d_M_read_113 hf (fun hf => ?_) (fun hf => ?_)
      · refine r_iload h d_M_read_118 4 rfl ?_
        refine r_iload h d_M_read_120 6 rfl ?_
        obtain ⟨r122, e122, hf⟩ := q_bind hf
        refine r_callS (As := [.int x5, .int x7]) (rest := []) h lk_M_339 sk_M_339 d_M_read_122 (by decide) rfl rfl (Nat.le_of_ble_eq_true rfl) (m_M_isNumber e122) ?_
        refine r_bif_ne h d_M_read_125 hf (fun hf => ?_) (fun hf => ?_)
        · refine r_aload_n h d_M_read_131 0 rfl rfl ?_
          refine r_getR h fd_YM_0_34 cf_M fl_M_86 d_M_read_132 ?_
          refine r_aload_n h d_M_read_135 0 rfl rfl ?_
          refine r_getI h fd_YM_0_33 cf_M fl_M_329 d_M_read_136 ?_
          refine r_iload h d_M_read_139 4 rfl ?_
          refine r_iast h sh_YM_26 d_M_read_141 hf (fun hf => ?_)
          refine r_aload_n h d_M_read_142 0 rfl rfl ?_
          refine r_getR h fd_YM_0_35 cf_M fl_M_89 d_M_read_143 ?_
          refine r_aload_n h d_M_read_146 0 rfl rfl ?_
          refine r_getIv (v := (σ.1 0 33)) h fd_YM_0_33 cf_M fl_M_329 d_M_read_147 rfl ?_
          refine r_iload h d_M_read_150 6 rfl ?_
          refine r_iast h sh_YM_27 d_M_read_152 hf (fun hf => ?_)
          refine r_aload_n h d_M_read_153 0 rfl rfl ?_
          refine r_dup h d_M_read_154 rfl ?_
          refine r_getIv (v := (σ.1 0 33)) h fd_YM_0_33 cf_M fl_M_329 d_M_read_155 rfl ?_
          refine r_iconst h d_M_read_158 ki_1 ?_
          refine r_iadd h d_M_read_159 ?_
          refine r_putI h fd_YM_0_33 cf_M fl_M_329 ⟨rfl, rfl⟩ d_M_read_160 ?_
          refine r_iload_n h d_M_read_163 3 rfl rfl ?_
          refine r_iload_n h d_M_read_164 2 rfl rfl ?_
          refine r_icmp_ge h d_M_read_165 hf (fun hf => ?_) (fun hf => ?_)
          · refine r_iconst h d_M_read_172 ki_0 ?_
            refine r_istore (ls' := [(4, .int (0 : Int32)), (0, .ref (ya Z 0)), (1, .int x1), (2, .int x2), (3, .int x3), (5, .int x5), (6, .int x6), (7, .int x7)]) h d_M_read_173 (by decide) rfl ?_
            refine r_iload h d_M_read_175 0 rfl ?_
            refine r_if_eq_T h d_M_read_177 (by decide) ?_
            refine r_goto h d_M_read_207 ?_
            refine r_sub h [1, 2, 3, 4, 0] rfl ?_
            exact hk10 _ _ _ hf
          · refine r_iconst h d_M_read_168 ki_1 ?_
            refine r_goto h d_M_read_169 ?_
            refine r_istore (ls' := [(4, .int (1 : Int32)), (0, .ref (ya Z 0)), (1, .int x1), (2, .int x2), (3, .int x3), (5, .int x5), (6, .int x6), (7, .int x7)]) h d_M_read_173 (by decide) rfl ?_
            refine r_iload h d_M_read_175 0 rfl ?_
            refine r_if_eq_F h d_M_read_177 (by decide) ?_
            refine r_aload_n h d_M_read_180 1 rfl rfl ?_
            refine r_getR h fd_YM_0_76 cf_M fl_M_191 d_M_read_181 ?_
            refine r_iload_n h d_M_read_184 2 rfl rfl ?_
            refine r_iload_n h d_M_read_185 4 rfl rfl ?_
            refine r_iadd h d_M_read_186 ?_
            refine r_ialdv (v := (σ.1 61 (Int32.toNatClampNeg (x1 + x3)))) h sh_YM_61 d_M_read_187 hf rfl (fun hf => ?_)
            refine r_bipush h d_M_read_188 kb_59 ?_
            refine r_icmp_ne h d_M_read_190 hf (fun hf => ?_) (fun hf => ?_)
            · refine r_iload_n h d_M_read_202 4 rfl rfl ?_
              exact r_ireturn h d_M_read_203.1 (q_p1 hf) (q_p2 hf)
            · refine r_aload_n h d_M_read_193 1 rfl rfl ?_
              refine r_getIv (v := ((σ.1 0 33) + (1 : Int32))) h fd_YM_0_33 cf_M fl_M_329 d_M_read_194 rfl ?_
              refine r_bipush h d_M_read_197 kb_6 ?_
              refine r_icmp_ne h d_M_read_199 hf (fun hf => ?_) (fun hf => ?_)
              · refine r_iinc (ls' := [(3, .int (x3 + (1 : Int32))), (4, .int (1 : Int32)), (0, .ref (ya Z 0)), (1, .int x1), (2, .int x2), (5, .int x5), (6, .int x6), (7, .int x7)]) h d_M_read_204 4 rfl ki_1 (by decide) rfl ?_
                refine r_goto h d_M_read_207 ?_
                refine r_sub h [2, 3, 4, 0, 1] rfl ?_
                exact hk10 _ _ _ hf
              · refine r_iload_n h d_M_read_202 4 rfl rfl ?_
                exact r_ireturn h d_M_read_203.1 (q_p1 hf) (q_p2 hf)
        · refine r_iload h d_M_read_128 5 rfl ?_
          exact r_ireturn h d_M_read_130.1 (q_p1 hf) (q_p2 hf)
      · refine r_iload_n h d_M_read_116 3 rfl rfl ?_
        exact r_ireturn h d_M_read_117.1 (q_p1 hf) (q_p2 hf)
    · refine r_iload_n h d_M_read_56 3 rfl rfl ?_
      refine r_iload h d_M_read_57 5 rfl ?_
      refine r_iconst h d_M_read_59 ki_4 ?_
      refine r_iadd h d_M_read_60 ?_
      refine r_icmp_ge h d_M_read_61 hf (fun hf => ?_) (fun hf => ?_)
      · refine r_iload_n h d_M_read_110 3 rfl rfl ?_
        refine r_iload h d_M_read_111 5 rfl ?_
        refine r_icmp_ne h d_M_read_113 hf (fun hf => ?_) (fun hf => ?_)
        · refine r_iload h d_M_read_118 4 rfl ?_
          refine r_iload h d_M_read_120 6 rfl ?_
          obtain ⟨r122, e122, hf⟩ := q_bind hf
          refine r_callS (As := [.int x5, .int x7]) (rest := []) h lk_M_339 sk_M_339 d_M_read_122 (by decide) rfl rfl (Nat.le_of_ble_eq_true rfl) (m_M_isNumber e122) ?_
          refine r_bif_ne h d_M_read_125 hf (fun hf => ?_) (fun hf => ?_)
          · refine r_aload_n h d_M_read_131 0 rfl rfl ?_
            refine r_getR h fd_YM_0_34 cf_M fl_M_86 d_M_read_132 ?_
            refine r_aload_n h d_M_read_135 0 rfl rfl ?_
            refine r_getI h fd_YM_0_33 cf_M fl_M_329 d_M_read_136 ?_
            refine r_iload h d_M_read_139 4 rfl ?_
            refine r_iast h sh_YM_26 d_M_read_141 hf (fun hf => ?_)
            refine r_aload_n h d_M_read_142 0 rfl rfl ?_
            refine r_getR h fd_YM_0_35 cf_M fl_M_89 d_M_read_143 ?_
            refine r_aload_n h d_M_read_146 0 rfl rfl ?_
            refine r_getIv (v := (σ.1 0 33)) h fd_YM_0_33 cf_M fl_M_329 d_M_read_147 rfl ?_
            refine r_iload h d_M_read_150 6 rfl ?_
            refine r_iast h sh_YM_27 d_M_read_152 hf (fun hf => ?_)
            refine r_aload_n h d_M_read_153 0 rfl rfl ?_
            refine r_dup h d_M_read_154 rfl ?_
            refine r_getIv (v := (σ.1 0 33)) h fd_YM_0_33 cf_M fl_M_329 d_M_read_155 rfl ?_
            refine r_iconst h d_M_read_158 ki_1 ?_
            refine r_iadd h d_M_read_159 ?_
            refine r_putI h fd_YM_0_33 cf_M fl_M_329 ⟨rfl, rfl⟩ d_M_read_160 ?_
            refine r_iload_n h d_M_read_163 3 rfl rfl ?_
            refine r_iload_n h d_M_read_164 2 rfl rfl ?_
            refine r_icmp_ge h d_M_read_165 hf (fun hf => ?_) (fun hf => ?_)
            · refine r_iconst h d_M_read_172 ki_0 ?_
              refine r_istore (ls' := [(4, .int (0 : Int32)), (0, .ref (ya Z 0)), (1, .int x1), (2, .int x2), (3, .int x3), (5, .int x5), (6, .int x6), (7, .int x7)]) h d_M_read_173 (by decide) rfl ?_
              refine r_iload h d_M_read_175 0 rfl ?_
              refine r_if_eq_T h d_M_read_177 (by decide) ?_
              refine r_goto h d_M_read_207 ?_
              refine r_sub h [1, 2, 3, 4, 0] rfl ?_
              exact hk10 _ _ _ hf
            · refine r_iconst h d_M_read_168 ki_1 ?_
              refine r_goto h d_M_read_169 ?_
              refine r_istore (ls' := [(4, .int (1 : Int32)), (0, .ref (ya Z 0)), (1, .int x1), (2, .int x2), (3, .int x3), (5, .int x5), (6, .int x6), (7, .int x7)]) h d_M_read_173 (by decide) rfl ?_
              refine r_iload h d_M_read_175 0 rfl ?_
              refine r_if_eq_F h d_M_read_177 (by decide) ?_
              refine r_aload_n h d_M_read_180 1 rfl rfl ?_
              refine r_getR h fd_YM_0_76 cf_M fl_M_191 d_M_read_181 ?_
              refine r_iload_n h d_M_read_184 2 rfl rfl ?_
              refine r_iload_n h d_M_read_185 4 rfl rfl ?_
              refine r_iadd h d_M_read_186 ?_
              refine r_ialdv (v := (σ.1 61 (Int32.toNatClampNeg (x1 + x3)))) h sh_YM_61 d_M_read_187 hf rfl (fun hf => ?_)
              refine r_bipush h d_M_read_188 kb_59 ?_
              refine r_icmp_ne h d_M_read_190 hf (fun hf => ?_) (fun hf => ?_)
              · refine r_iload_n h d_M_read_202 4 rfl rfl ?_
                exact r_ireturn h d_M_read_203.1 (q_p1 hf) (q_p2 hf)
              · refine r_aload_n h d_M_read_193 1 rfl rfl ?_
                refine r_getIv (v := ((σ.1 0 33) + (1 : Int32))) h fd_YM_0_33 cf_M fl_M_329 d_M_read_194 rfl ?_
                refine r_bipush h d_M_read_197 kb_6 ?_
                refine r_icmp_ne h d_M_read_199 hf (fun hf => ?_) (fun hf => ?_)
                · refine r_iinc (ls' := [(3, .int (x3 + (1 : Int32))), (4, .int (1 : Int32)), (0, .ref (ya Z 0)), (1, .int x1), (2, .int x2), (5, .int x5), (6, .int x6), (7, .int x7)]) h d_M_read_204 4 rfl ki_1 (by decide) rfl ?_
                  refine r_goto h d_M_read_207 ?_
                  refine r_sub h [2, 3, 4, 0, 1] rfl ?_
                  exact hk10 _ _ _ hf
                · refine r_iload_n h d_M_read_202 4 rfl rfl ?_
                  exact r_ireturn h d_M_read_203.1 (q_p1 hf) (q_p2 hf)
          · refine r_iload h d_M_read_128 5 rfl ?_
            exact r_ireturn h d_M_read_130.1 (q_p1 hf) (q_p2 hf)
        · refine r_iload_n h d_M_read_116 3 rfl rfl ?_
          exact r_ireturn h d_M_read_117.1 (q_p1 hf) (q_p2 hf)
      · refine r_aload_n h d_M_read_64 0 rfl rfl ?_
        refine r_getR h fd_YM_0_76 cf_M fl_M_191 d_M_read_65 ?_
        refine r_iload_n h d_M_read_68 1 rfl rfl ?_
        refine r_iload_n h d_M_read_69 3 rfl rfl ?_
        refine r_iadd h d_M_read_70 ?_
        refine r_iald h sh_YM_61 d_M_read_71 hf (fun hf => ?_)
        refine r_i2l h d_M_read_72 ?_
        refine r_ldc2 h d_M_read_73 tm_1579 ?_
        refine r_ldc2 h d_M_read_76 tm_1580 ?_
        obtain ⟨r79, e79, hf⟩ := q_bind hf
        refine r_callS (As := [.long (Int32.toInt64 (σ.1 61 (Int32.toNatClampNeg (x1 + x3)))), .long (48 : Int64), .long (57 : Int64)]) (rest := []) h lk_M_201 sk_M_201 d_M_read_79 (by decide) rfl rfl (Nat.le_of_ble_eq_true rfl) (m_M_in e79) ?_
        refine r_bif_eq h d_M_read_82 hf (fun hf => ?_) (fun hf => ?_)
        · refine r_iload_n h d_M_read_110 3 rfl rfl ?_
          refine r_iload h d_M_read_111 5 rfl ?_
          refine r_icmp_ne h d_M_read_113 hf (fun hf => ?_) (fun hf => ?_)
          · refine r_iload h d_M_read_118 4 rfl ?_
            refine r_iload h d_M_read_120 6 rfl ?_
            obtain ⟨r122, e122, hf⟩ := q_bind hf
            refine r_callS (As := [.int x5, .int x7]) (rest := []) h lk_M_339 sk_M_339 d_M_read_122 (by decide) rfl rfl (Nat.le_of_ble_eq_true rfl) (m_M_isNumber e122) ?_
            refine r_bif_ne h d_M_read_125 hf (fun hf => ?_) (fun hf => ?_)
            · refine r_aload_n h d_M_read_131 0 rfl rfl ?_
              refine r_getR h fd_YM_0_34 cf_M fl_M_86 d_M_read_132 ?_
              refine r_aload_n h d_M_read_135 0 rfl rfl ?_
              refine r_getI h fd_YM_0_33 cf_M fl_M_329 d_M_read_136 ?_
              refine r_iload h d_M_read_139 4 rfl ?_
              refine r_iast h sh_YM_26 d_M_read_141 hf (fun hf => ?_)
              refine r_aload_n h d_M_read_142 0 rfl rfl ?_
              refine r_getR h fd_YM_0_35 cf_M fl_M_89 d_M_read_143 ?_
              refine r_aload_n h d_M_read_146 0 rfl rfl ?_
              refine r_getIv (v := (σ.1 0 33)) h fd_YM_0_33 cf_M fl_M_329 d_M_read_147 rfl ?_
              refine r_iload h d_M_read_150 6 rfl ?_
              refine r_iast h sh_YM_27 d_M_read_152 hf (fun hf => ?_)
              refine r_aload_n h d_M_read_153 0 rfl rfl ?_
              refine r_dup h d_M_read_154 rfl ?_
              refine r_getIv (v := (σ.1 0 33)) h fd_YM_0_33 cf_M fl_M_329 d_M_read_155 rfl ?_
              refine r_iconst h d_M_read_158 ki_1 ?_
              refine r_iadd h d_M_read_159 ?_
              refine r_putI h fd_YM_0_33 cf_M fl_M_329 ⟨rfl, rfl⟩ d_M_read_160 ?_
              refine r_iload_n h d_M_read_163 3 rfl rfl ?_
              refine r_iload_n h d_M_read_164 2 rfl rfl ?_
              refine r_icmp_ge h d_M_read_165 hf (fun hf => ?_) (fun hf => ?_)
              · refine r_iconst h d_M_read_172 ki_0 ?_
                refine r_istore (ls' := [(4, .int (0 : Int32)), (0, .ref (ya Z 0)), (1, .int x1), (2, .int x2), (3, .int x3), (5, .int x5), (6, .int x6), (7, .int x7)]) h d_M_read_173 (by decide) rfl ?_
                refine r_iload h d_M_read_175 0 rfl ?_
                refine r_if_eq_T h d_M_read_177 (by decide) ?_
                refine r_goto h d_M_read_207 ?_
                refine r_sub h [1, 2, 3, 4, 0] rfl ?_
                exact hk10 _ _ _ hf
              · refine r_iconst h d_M_read_168 ki_1 ?_
                refine r_goto h d_M_read_169 ?_
                refine r_istore (ls' := [(4, .int (1 : Int32)), (0, .ref (ya Z 0)), (1, .int x1), (2, .int x2), (3, .int x3), (5, .int x5), (6, .int x6), (7, .int x7)]) h d_M_read_173 (by decide) rfl ?_
                refine r_iload h d_M_read_175 0 rfl ?_
                refine r_if_eq_F h d_M_read_177 (by decide) ?_
                refine r_aload_n h d_M_read_180 1 rfl rfl ?_
                refine r_getR h fd_YM_0_76 cf_M fl_M_191 d_M_read_181 ?_
                refine r_iload_n h d_M_read_184 2 rfl rfl ?_
                refine r_iload_n h d_M_read_185 4 rfl rfl ?_
                refine r_iadd h d_M_read_186 ?_
                refine r_ialdv (v := (σ.1 61 (Int32.toNatClampNeg (x1 + x3)))) h sh_YM_61 d_M_read_187 hf rfl (fun hf => ?_)
                refine r_bipush h d_M_read_188 kb_59 ?_
                refine r_icmp_ne h d_M_read_190 hf (fun hf => ?_) (fun hf => ?_)
                · refine r_iload_n h d_M_read_202 4 rfl rfl ?_
                  exact r_ireturn h d_M_read_203.1 (q_p1 hf) (q_p2 hf)
                · refine r_aload_n h d_M_read_193 1 rfl rfl ?_
                  refine r_getIv (v := ((σ.1 0 33) + (1 : Int32))) h fd_YM_0_33 cf_M fl_M_329 d_M_read_194 rfl ?_
                  refine r_bipush h d_M_read_197 kb_6 ?_
                  refine r_icmp_ne h d_M_read_199 hf (fun hf => ?_) (fun hf => ?_)
                  · refine r_iinc (ls' := [(3, .int (x3 + (1 : Int32))), (4, .int (1 : Int32)), (0, .ref (ya Z 0)), (1, .int x1), (2, .int x2), (5, .int x5), (6, .int x6), (7, .int x7)]) h d_M_read_204 4 rfl ki_1 (by decide) rfl ?_
                    refine r_goto h d_M_read_207 ?_
                    refine r_sub h [2, 3, 4, 0, 1] rfl ?_
                    exact hk10 _ _ _ hf
                  · refine r_iload_n h d_M_read_202 4 rfl rfl ?_
                    exact r_ireturn h d_M_read_203.1 (q_p1 hf) (q_p2 hf)
            · refine r_iload h d_M_read_128 5 rfl ?_
              exact r_ireturn h d_M_read_130.1 (q_p1 hf) (q_p2 hf)
          · refine r_iload_n h d_M_read_116 3 rfl rfl ?_
            exact r_ireturn h d_M_read_117.1 (q_p1 hf) (q_p2 hf)
        · refine r_bipush h d_M_read_85 kb_10 ?_
          refine r_iload h d_M_read_87 6 rfl ?_
          refine r_imul h d_M_read_89 ?_
          refine r_aload_n h d_M_read_90 0 rfl rfl ?_
          refine r_getR h fd_YM_0_76 cf_M fl_M_191 d_M_read_91 ?_
          refine r_iload_n h d_M_read_94 1 rfl rfl ?_
          refine r_iload_n h d_M_read_95 3 rfl rfl ?_
          refine r_iadd h d_M_read_96 ?_
          refine r_iald h sh_YM_61 d_M_read_97 hf (fun hf => ?_)
          refine r_iadd h d_M_read_98 ?_
          refine r_bipush h d_M_read_99 kb_48 ?_
          refine r_isub h d_M_read_101 ?_
          refine r_istore (ls' := [(7, .int ((((10 : Int32) * x7) + (σ.1 61 (Int32.toNatClampNeg (x1 + x3)))) - (48 : Int32))), (0, .ref (ya Z 0)), (1, .int x1), (2, .int x2), (3, .int x3), (5, .int x5), (6, .int x6)]) h d_M_read_102 (by decide) rfl ?_
          refine r_iinc (ls' := [(3, .int (x3 + (1 : Int32))), (7, .int ((((10 : Int32) * x7) + (σ.1 61 (Int32.toNatClampNeg (x1 + x3)))) - (48 : Int32))), (0, .ref (ya Z 0)), (1, .int x1), (2, .int x2), (5, .int x5), (6, .int x6)]) h d_M_read_104 4 rfl ki_1 (by decide) rfl ?_
          refine r_goto h d_M_read_107 ?_
          refine r_sub h [2, 3, 4, 0, 5, 6, 1] rfl ?_
          exact ih _ _ hf

set_option maxHeartbeats 4000000 in
theorem w_M_read_L10 {Z : Sy} {Γ : Nat → List (Nat × Value) → List Value → St → Prop} {res : (Int32 × St)} {x1 : Int32} {x2 : Int32} (h : IsG YM Z R_M c_M_read 8 2 (some .int) (some (.int res.1)) res.2 Γ) : ∀ (n : Nat) (x3 : Int32) (x4 : Int32) (σ : St), M_read_L10 x1 x2 n x3 x4 σ = some res → Γ 10 [(0, .ref (ya Z 0)), (1, .int x1), (2, .int x2), (3, .int x3), (4, .int x4)] [] σ := by
  intro n
  induction n with
  | zero => intro x3 x4 σ hf; exact absurd hf (by simp [M_read_L10])
  | succ n ih =>
    intro x3 x4 σ hf
    rw [M_read_L10] at hf
    refine r_iload h d_M_read_10 4 rfl ?_
    refine r_if_eq h d_M_read_12 hf (fun hf => ?_) (fun hf => ?_)
    · refine r_iconst h d_M_read_210 ki_m1 ?_
      exact r_ireturn h d_M_read_211.1 (q_p1 hf) (q_p2 hf)
    · refine r_iload_n h d_M_read_15 3 rfl rfl ?_
      refine r_iload_n h d_M_read_16 2 rfl rfl ?_
      refine r_icmp_ne h d_M_read_17 hf (fun hf => ?_) (fun hf => ?_)
      · refine r_aload_n h d_M_read_22 0 rfl rfl ?_
        refine r_getR h fd_YM_0_76 cf_M fl_M_191 d_M_read_23 ?_
        refine r_iload_n h d_M_read_26 1 rfl rfl ?_
        refine r_iload_n h d_M_read_27 3 rfl rfl ?_
        refine r_iadd h d_M_read_28 ?_
        refine r_iald h sh_YM_61 d_M_read_29 hf (fun hf => ?_)
        obtain ⟨r30, e30, hf⟩ := q_bind hf
        refine r_callS (As := [.int (σ.1 61 (Int32.toNatClampNeg (x1 + x3)))]) (rest := []) h lk_M_332 sk_M_332 d_M_read_30 (by decide) rfl rfl (Nat.le_of_ble_eq_true rfl) (m_M_letterOf e30) ?_
        refine r_istore (ls' := [(5, .int r30), (0, .ref (ya Z 0)), (1, .int x1), (2, .int x2), (3, .int x3), (4, .int x4)]) h d_M_read_33 (by decide) rfl ?_
        refine r_iload h d_M_read_35 0 rfl ?_
        refine r_if_ge h d_M_read_37 hf (fun hf => ?_) (fun hf => ?_)
        · refine r_iinc (ls' := [(3, .int (x3 + (1 : Int32))), (5, .int r30), (0, .ref (ya Z 0)), (1, .int x1), (2, .int x2), (4, .int x4)]) h d_M_read_42 4 rfl ki_1 (by decide) rfl ?_
          refine r_iload_n h d_M_read_45 0 rfl rfl ?_
          refine r_istore (ls' := [(6, .int (x3 + (1 : Int32))), (3, .int (x3 + (1 : Int32))), (5, .int r30), (0, .ref (ya Z 0)), (1, .int x1), (2, .int x2), (4, .int x4)]) h d_M_read_46 (by decide) rfl ?_
          refine r_iconst h d_M_read_48 ki_0 ?_
          refine r_istore (ls' := [(7, .int (0 : Int32)), (6, .int (x3 + (1 : Int32))), (3, .int (x3 + (1 : Int32))), (5, .int r30), (0, .ref (ya Z 0)), (1, .int x1), (2, .int x2), (4, .int x4)]) h d_M_read_49 (by decide) rfl ?_
          refine r_sub h [4, 5, 6, 2, 3, 1, 0] rfl ?_
          exact w_M_read_L51 h (fun y3 y4 τ hf => ih y3 y4 τ hf) _ _ _ hf
        · refine r_iload_n h d_M_read_40 4 rfl rfl ?_
          exact r_ireturn h d_M_read_41.1 (q_p1 hf) (q_p2 hf)
      · refine r_iload_n h d_M_read_20 2 rfl rfl ?_
        exact r_ireturn h d_M_read_21.1 (q_p1 hf) (q_p2 hf)

set_option maxHeartbeats 4000000 in
theorem m_M_read {Z : Sy} {σ : St} {res : (Int32 × St)} {x1 : Int32} {x2 : Int32} (hf : M_read x1 x2 σ = some res) : Ct YM Z y_M_read c_M_read 8 (some .int) 2 [.ref (ya Z 0), .int x1, .int x2] σ (some (.int res.1)) res.2 := by
  refine Ct.of pn_M (Nat.le_of_ble_eq_true rfl) rfl (fun Γ h => ?_)
  have h : IsG YM Z R_M c_M_read 8 2 (some .int) (some (.int res.1)) res.2 Γ := h
  unfold M_read at hf
  refine r_aload_n h d_M_read_0 0 rfl rfl ?_
  refine r_iconst h d_M_read_1 ki_0 ?_
  refine r_putI h fd_YM_0_33 cf_M fl_M_329 ⟨rfl, rfl⟩ d_M_read_2 ?_
  refine r_iconst h d_M_read_5 ki_0 ?_
  refine r_istore_n (ls' := [(3, .int (0 : Int32)), (0, .ref (ya Z 0)), (1, .int x1), (2, .int x2)]) h d_M_read_6 rfl (by decide) rfl ?_
  refine r_iconst h d_M_read_7 ki_1 ?_
  refine r_istore (ls' := [(4, .int (1 : Int32)), (3, .int (0 : Int32)), (0, .ref (ya Z 0)), (1, .int x1), (2, .int x2)]) h d_M_read_8 (by decide) rfl ?_
  refine r_sub h [2, 3, 4, 1, 0] rfl ?_
  exact w_M_read_L10 h _ _ _ _ hf

theorem d_M_text_0 : decode c_M_text 0 = .ok (.iload 4, 2) ∧ 0 + 2 = 2 := by decide +kernel
theorem d_M_text_2 : decode c_M_text 2 = .ok (.invokestatic 291, 3) ∧ 2 + 3 = 5 := by decide +kernel
theorem d_M_text_5 : decode c_M_text 5 = .ok (.ifCond .eq 9, 3) ∧ 5 + 3 = 8 ∧ ((5 : Nat) : Int) + 9 = ((14 : Nat) : Int) := by decide +kernel
theorem d_M_text_8 : decode c_M_text 8 = .ok (.aload_n 0, 1) ∧ 8 + 1 = 9 := by decide +kernel
theorem d_M_text_9 : decode c_M_text 9 = .ok (.iconst (-1), 1) ∧ 9 + 1 = 10 := by decide +kernel
theorem d_M_text_10 : decode c_M_text 10 = .ok (.invokevirtual 294, 3) ∧ 10 + 3 = 13 := by decide +kernel
theorem d_M_text_13 : decode c_M_text 13 = .ok (.ireturn, 1) ∧ 13 + 1 = 14 := by decide +kernel
theorem d_M_text_14 : decode c_M_text 14 = .ok (.iload_n 1, 1) ∧ 14 + 1 = 15 := by decide +kernel
theorem d_M_text_15 : decode c_M_text 15 = .ok (.iconst (-1), 1) ∧ 15 + 1 = 16 := by decide +kernel
theorem d_M_text_16 : decode c_M_text 16 = .ok (.if_icmp .eq 10, 3) ∧ 16 + 3 = 19 ∧ ((16 : Nat) : Int) + 10 = ((26 : Nat) : Int) := by decide +kernel
theorem d_M_text_19 : decode c_M_text 19 = .ok (.iload_n 1, 1) ∧ 19 + 1 = 20 := by decide +kernel
theorem d_M_text_20 : decode c_M_text 20 = .ok (.invokestatic 230, 3) ∧ 20 + 3 = 23 := by decide +kernel
theorem d_M_text_23 : decode c_M_text 23 = .ok (.ifCond .eq 11, 3) ∧ 23 + 3 = 26 ∧ ((23 : Nat) : Int) + 11 = ((34 : Nat) : Int) := by decide +kernel
theorem d_M_text_26 : decode c_M_text 26 = .ok (.iload_n 2, 1) ∧ 26 + 1 = 27 := by decide +kernel
theorem d_M_text_27 : decode c_M_text 27 = .ok (.iload_n 3, 1) ∧ 27 + 1 = 28 := by decide +kernel
theorem d_M_text_28 : decode c_M_text 28 = .ok (.invokestatic 243, 3) ∧ 28 + 3 = 31 := by decide +kernel
theorem d_M_text_31 : decode c_M_text 31 = .ok (.ifCond .ne 10, 3) ∧ 31 + 3 = 34 ∧ ((31 : Nat) : Int) + 10 = ((41 : Nat) : Int) := by decide +kernel
theorem d_M_text_34 : decode c_M_text 34 = .ok (.aload_n 0, 1) ∧ 34 + 1 = 35 := by decide +kernel
theorem d_M_text_35 : decode c_M_text 35 = .ok (.bipush (-2), 2) ∧ 35 + 2 = 37 := by decide +kernel
theorem d_M_text_37 : decode c_M_text 37 = .ok (.invokevirtual 294, 3) ∧ 37 + 3 = 40 := by decide +kernel
theorem d_M_text_40 : decode c_M_text 40 = .ok (.ireturn, 1) ∧ 40 + 1 = 41 := by decide +kernel
theorem d_M_text_41 : decode c_M_text 41 = .ok (.aload_n 0, 1) ∧ 41 + 1 = 42 := by decide +kernel
theorem d_M_text_42 : decode c_M_text 42 = .ok (.iload 4, 2) ∧ 42 + 2 = 44 := by decide +kernel
theorem d_M_text_44 : decode c_M_text 44 = .ok (.iload 5, 2) ∧ 44 + 2 = 46 := by decide +kernel
theorem d_M_text_46 : decode c_M_text 46 = .ok (.iload 6, 2) ∧ 46 + 2 = 48 := by decide +kernel
theorem d_M_text_48 : decode c_M_text 48 = .ok (.iload 7, 2) ∧ 48 + 2 = 50 := by decide +kernel
theorem d_M_text_50 : decode c_M_text 50 = .ok (.i2l, 1) ∧ 50 + 1 = 51 := by decide +kernel
theorem d_M_text_51 : decode c_M_text 51 = .ok (.invokevirtual 298, 3) ∧ 51 + 3 = 54 := by decide +kernel
theorem d_M_text_54 : decode c_M_text 54 = .ok (.istore 8, 2) ∧ 54 + 2 = 56 := by decide +kernel
theorem d_M_text_56 : decode c_M_text 56 = .ok (.iload 8, 2) ∧ 56 + 2 = 58 := by decide +kernel
theorem d_M_text_58 : decode c_M_text 58 = .ok (.ifCond .ge 6, 3) ∧ 58 + 3 = 61 ∧ ((58 : Nat) : Int) + 6 = ((64 : Nat) : Int) := by decide +kernel
theorem d_M_text_61 : decode c_M_text 61 = .ok (.iload 8, 2) ∧ 61 + 2 = 63 := by decide +kernel
theorem d_M_text_63 : decode c_M_text 63 = .ok (.ireturn, 1) ∧ 63 + 1 = 64 := by decide +kernel
theorem d_M_text_64 : decode c_M_text 64 = .ok (.aload_n 0, 1) ∧ 64 + 1 = 65 := by decide +kernel
theorem d_M_text_65 : decode c_M_text 65 = .ok (.bipush 60, 2) ∧ 65 + 2 = 67 := by decide +kernel
theorem d_M_text_67 : decode c_M_text 67 = .ok (.iload 4, 2) ∧ 67 + 2 = 69 := by decide +kernel
theorem d_M_text_69 : decode c_M_text 69 = .ok (.imul, 1) ∧ 69 + 1 = 70 := by decide +kernel
theorem d_M_text_70 : decode c_M_text 70 = .ok (.iload 6, 2) ∧ 70 + 2 = 72 := by decide +kernel
theorem d_M_text_72 : decode c_M_text 72 = .ok (.iadd, 1) ∧ 72 + 1 = 73 := by decide +kernel
theorem d_M_text_73 : decode c_M_text 73 = .ok (.iload 7, 2) ∧ 73 + 2 = 75 := by decide +kernel
theorem d_M_text_75 : decode c_M_text 75 = .ok (.invokevirtual 342, 3) ∧ 75 + 3 = 78 := by decide +kernel
theorem d_M_text_78 : decode c_M_text 78 = .ok (.istore 9, 2) ∧ 78 + 2 = 80 := by decide +kernel
theorem d_M_text_80 : decode c_M_text 80 = .ok (.iload 9, 2) ∧ 80 + 2 = 82 := by decide +kernel
theorem d_M_text_82 : decode c_M_text 82 = .ok (.ifCond .lt 13, 3) ∧ 82 + 3 = 85 ∧ ((82 : Nat) : Int) + 13 = ((95 : Nat) : Int) := by decide +kernel
theorem d_M_text_85 : decode c_M_text 85 = .ok (.aload_n 0, 1) ∧ 85 + 1 = 86 := by decide +kernel
theorem d_M_text_86 : decode c_M_text 86 = .ok (.bipush (-100), 2) ∧ 86 + 2 = 88 := by decide +kernel
theorem d_M_text_88 : decode c_M_text 88 = .ok (.iload 9, 2) ∧ 88 + 2 = 90 := by decide +kernel
theorem d_M_text_90 : decode c_M_text 90 = .ok (.isub, 1) ∧ 90 + 1 = 91 := by decide +kernel
theorem d_M_text_91 : decode c_M_text 91 = .ok (.invokevirtual 294, 3) ∧ 91 + 3 = 94 := by decide +kernel
theorem d_M_text_94 : decode c_M_text 94 = .ok (.ireturn, 1) ∧ 94 + 1 = 95 := by decide +kernel
theorem d_M_text_95 : decode c_M_text 95 = .ok (.aload_n 0, 1) ∧ 95 + 1 = 96 := by decide +kernel
theorem d_M_text_96 : decode c_M_text 96 = .ok (.getfield 345, 3) ∧ 96 + 3 = 99 := by decide +kernel
theorem d_M_text_99 : decode c_M_text 99 = .ok (.bipush 10, 2) ∧ 99 + 2 = 101 := by decide +kernel
theorem d_M_text_101 : decode c_M_text 101 = .ok (.if_icmp .ne 10, 3) ∧ 101 + 3 = 104 ∧ ((101 : Nat) : Int) + 10 = ((111 : Nat) : Int) := by decide +kernel
theorem d_M_text_104 : decode c_M_text 104 = .ok (.aload_n 0, 1) ∧ 104 + 1 = 105 := by decide +kernel
theorem d_M_text_105 : decode c_M_text 105 = .ok (.bipush (-4), 2) ∧ 105 + 2 = 107 := by decide +kernel
theorem d_M_text_107 : decode c_M_text 107 = .ok (.invokevirtual 294, 3) ∧ 107 + 3 = 110 := by decide +kernel
theorem d_M_text_110 : decode c_M_text 110 = .ok (.ireturn, 1) ∧ 110 + 1 = 111 := by decide +kernel
theorem d_M_text_111 : decode c_M_text 111 = .ok (.aload_n 0, 1) ∧ 111 + 1 = 112 := by decide +kernel
theorem d_M_text_112 : decode c_M_text 112 = .ok (.getfield 68, 3) ∧ 112 + 3 = 115 := by decide +kernel
theorem d_M_text_115 : decode c_M_text 115 = .ok (.aload_n 0, 1) ∧ 115 + 1 = 116 := by decide +kernel
theorem d_M_text_116 : decode c_M_text 116 = .ok (.getfield 345, 3) ∧ 116 + 3 = 119 := by decide +kernel
theorem d_M_text_119 : decode c_M_text 119 = .ok (.iload_n 1, 1) ∧ 119 + 1 = 120 := by decide +kernel
theorem d_M_text_120 : decode c_M_text 120 = .ok (.iastore, 1) ∧ 120 + 1 = 121 := by decide +kernel
theorem d_M_text_121 : decode c_M_text 121 = .ok (.aload_n 0, 1) ∧ 121 + 1 = 122 := by decide +kernel
theorem d_M_text_122 : decode c_M_text 122 = .ok (.getfield 71, 3) ∧ 122 + 3 = 125 := by decide +kernel
theorem d_M_text_125 : decode c_M_text 125 = .ok (.aload_n 0, 1) ∧ 125 + 1 = 126 := by decide +kernel
theorem d_M_text_126 : decode c_M_text 126 = .ok (.getfield 345, 3) ∧ 126 + 3 = 129 := by decide +kernel
theorem d_M_text_129 : decode c_M_text 129 = .ok (.iload_n 2, 1) ∧ 129 + 1 = 130 := by decide +kernel
theorem d_M_text_130 : decode c_M_text 130 = .ok (.iastore, 1) ∧ 130 + 1 = 131 := by decide +kernel
theorem d_M_text_131 : decode c_M_text 131 = .ok (.aload_n 0, 1) ∧ 131 + 1 = 132 := by decide +kernel
theorem d_M_text_132 : decode c_M_text 132 = .ok (.getfield 74, 3) ∧ 132 + 3 = 135 := by decide +kernel
theorem d_M_text_135 : decode c_M_text 135 = .ok (.aload_n 0, 1) ∧ 135 + 1 = 136 := by decide +kernel
theorem d_M_text_136 : decode c_M_text 136 = .ok (.getfield 345, 3) ∧ 136 + 3 = 139 := by decide +kernel
theorem d_M_text_139 : decode c_M_text 139 = .ok (.iload_n 3, 1) ∧ 139 + 1 = 140 := by decide +kernel
theorem d_M_text_140 : decode c_M_text 140 = .ok (.iastore, 1) ∧ 140 + 1 = 141 := by decide +kernel
theorem d_M_text_141 : decode c_M_text 141 = .ok (.aload_n 0, 1) ∧ 141 + 1 = 142 := by decide +kernel
theorem d_M_text_142 : decode c_M_text 142 = .ok (.getfield 77, 3) ∧ 142 + 3 = 145 := by decide +kernel
theorem d_M_text_145 : decode c_M_text 145 = .ok (.aload_n 0, 1) ∧ 145 + 1 = 146 := by decide +kernel
theorem d_M_text_146 : decode c_M_text 146 = .ok (.getfield 345, 3) ∧ 146 + 3 = 149 := by decide +kernel
theorem d_M_text_149 : decode c_M_text 149 = .ok (.aload_n 0, 1) ∧ 149 + 1 = 150 := by decide +kernel
theorem d_M_text_150 : decode c_M_text 150 = .ok (.getfield 329, 3) ∧ 150 + 3 = 153 := by decide +kernel
theorem d_M_text_153 : decode c_M_text 153 = .ok (.iastore, 1) ∧ 153 + 1 = 154 := by decide +kernel
theorem d_M_text_154 : decode c_M_text 154 = .ok (.iconst 0, 1) ∧ 154 + 1 = 155 := by decide +kernel
theorem d_M_text_155 : decode c_M_text 155 = .ok (.istore 10, 2) ∧ 155 + 2 = 157 := by decide +kernel
theorem d_M_text_157 : decode c_M_text 157 = .ok (.iload 10, 2) ∧ 157 + 2 = 159 := by decide +kernel
theorem d_M_text_159 : decode c_M_text 159 = .ok (.aload_n 0, 1) ∧ 159 + 1 = 160 := by decide +kernel
theorem d_M_text_160 : decode c_M_text 160 = .ok (.getfield 329, 3) ∧ 160 + 3 = 163 := by decide +kernel
theorem d_M_text_163 : decode c_M_text 163 = .ok (.if_icmp .ge 53, 3) ∧ 163 + 3 = 166 ∧ ((163 : Nat) : Int) + 53 = ((216 : Nat) : Int) := by decide +kernel
theorem d_M_text_166 : decode c_M_text 166 = .ok (.aload_n 0, 1) ∧ 166 + 1 = 167 := by decide +kernel
theorem d_M_text_167 : decode c_M_text 167 = .ok (.getfield 80, 3) ∧ 167 + 3 = 170 := by decide +kernel
theorem d_M_text_170 : decode c_M_text 170 = .ok (.bipush 6, 2) ∧ 170 + 2 = 172 := by decide +kernel
theorem d_M_text_172 : decode c_M_text 172 = .ok (.aload_n 0, 1) ∧ 172 + 1 = 173 := by decide +kernel
theorem d_M_text_173 : decode c_M_text 173 = .ok (.getfield 345, 3) ∧ 173 + 3 = 176 := by decide +kernel
theorem d_M_text_176 : decode c_M_text 176 = .ok (.imul, 1) ∧ 176 + 1 = 177 := by decide +kernel
theorem d_M_text_177 : decode c_M_text 177 = .ok (.iload 10, 2) ∧ 177 + 2 = 179 := by decide +kernel
theorem d_M_text_179 : decode c_M_text 179 = .ok (.iadd, 1) ∧ 179 + 1 = 180 := by decide +kernel
theorem d_M_text_180 : decode c_M_text 180 = .ok (.aload_n 0, 1) ∧ 180 + 1 = 181 := by decide +kernel
theorem d_M_text_181 : decode c_M_text 181 = .ok (.getfield 86, 3) ∧ 181 + 3 = 184 := by decide +kernel
theorem d_M_text_184 : decode c_M_text 184 = .ok (.iload 10, 2) ∧ 184 + 2 = 186 := by decide +kernel
theorem d_M_text_186 : decode c_M_text 186 = .ok (.iaload, 1) ∧ 186 + 1 = 187 := by decide +kernel
theorem d_M_text_187 : decode c_M_text 187 = .ok (.iastore, 1) ∧ 187 + 1 = 188 := by decide +kernel
theorem d_M_text_188 : decode c_M_text 188 = .ok (.aload_n 0, 1) ∧ 188 + 1 = 189 := by decide +kernel
theorem d_M_text_189 : decode c_M_text 189 = .ok (.getfield 83, 3) ∧ 189 + 3 = 192 := by decide +kernel
theorem d_M_text_192 : decode c_M_text 192 = .ok (.bipush 6, 2) ∧ 192 + 2 = 194 := by decide +kernel
theorem d_M_text_194 : decode c_M_text 194 = .ok (.aload_n 0, 1) ∧ 194 + 1 = 195 := by decide +kernel
theorem d_M_text_195 : decode c_M_text 195 = .ok (.getfield 345, 3) ∧ 195 + 3 = 198 := by decide +kernel
theorem d_M_text_198 : decode c_M_text 198 = .ok (.imul, 1) ∧ 198 + 1 = 199 := by decide +kernel
theorem d_M_text_199 : decode c_M_text 199 = .ok (.iload 10, 2) ∧ 199 + 2 = 201 := by decide +kernel
theorem d_M_text_201 : decode c_M_text 201 = .ok (.iadd, 1) ∧ 201 + 1 = 202 := by decide +kernel
theorem d_M_text_202 : decode c_M_text 202 = .ok (.aload_n 0, 1) ∧ 202 + 1 = 203 := by decide +kernel
theorem d_M_text_203 : decode c_M_text 203 = .ok (.getfield 89, 3) ∧ 203 + 3 = 206 := by decide +kernel
theorem d_M_text_206 : decode c_M_text 206 = .ok (.iload 10, 2) ∧ 206 + 2 = 208 := by decide +kernel
theorem d_M_text_208 : decode c_M_text 208 = .ok (.iaload, 1) ∧ 208 + 1 = 209 := by decide +kernel
theorem d_M_text_209 : decode c_M_text 209 = .ok (.iastore, 1) ∧ 209 + 1 = 210 := by decide +kernel
theorem d_M_text_210 : decode c_M_text 210 = .ok (.iinc 10 1, 3) ∧ 210 + 3 = 213 := by decide +kernel
theorem d_M_text_213 : decode c_M_text 213 = .ok (.goto (-56), 3) ∧ (213 : Int) + (-56) = (157 : Int) := by decide +kernel
theorem d_M_text_216 : decode c_M_text 216 = .ok (.aload_n 0, 1) ∧ 216 + 1 = 217 := by decide +kernel
theorem d_M_text_217 : decode c_M_text 217 = .ok (.dup, 1) ∧ 217 + 1 = 218 := by decide +kernel
theorem d_M_text_218 : decode c_M_text 218 = .ok (.getfield 345, 3) ∧ 218 + 3 = 221 := by decide +kernel
theorem d_M_text_221 : decode c_M_text 221 = .ok (.iconst 1, 1) ∧ 221 + 1 = 222 := by decide +kernel
theorem d_M_text_222 : decode c_M_text 222 = .ok (.iadd, 1) ∧ 222 + 1 = 223 := by decide +kernel
theorem d_M_text_223 : decode c_M_text 223 = .ok (.putfield 345, 3) ∧ 223 + 3 = 226 := by decide +kernel
theorem d_M_text_226 : decode c_M_text 226 = .ok (.aload_n 0, 1) ∧ 226 + 1 = 227 := by decide +kernel
theorem d_M_text_227 : decode c_M_text 227 = .ok (.aload_n 0, 1) ∧ 227 + 1 = 228 := by decide +kernel
theorem d_M_text_228 : decode c_M_text 228 = .ok (.getfield 345, 3) ∧ 228 + 3 = 231 := by decide +kernel
theorem d_M_text_231 : decode c_M_text 231 = .ok (.iconst 1, 1) ∧ 231 + 1 = 232 := by decide +kernel
theorem d_M_text_232 : decode c_M_text 232 = .ok (.isub, 1) ∧ 232 + 1 = 233 := by decide +kernel
theorem d_M_text_233 : decode c_M_text 233 = .ok (.invokevirtual 294, 3) ∧ 233 + 3 = 236 := by decide +kernel
theorem d_M_text_236 : decode c_M_text 236 = .ok (.ireturn, 1) ∧ 236 + 1 = 237 := by decide +kernel
set_option maxHeartbeats 4000000 in
theorem w_M_text_L157 {Z : Sy} {Γ : Nat → List (Nat × Value) → List Value → St → Prop} {res : (Int32 × St)} (h : IsG YM Z R_M c_M_text 11 4 (some .int) (some (.int res.1)) res.2 Γ) : ∀ (n : Nat) (x10 : Int32) (σ : St), M_text_L157 n x10 σ = some res → Γ 157 [(0, .ref (ya Z 0)), (10, .int x10)] [] σ := by
  intro n
  induction n with
  | zero => intro x10 σ hf; exact absurd hf (by simp [M_text_L157])
  | succ n ih =>
    intro x10 σ hf
    rw [M_text_L157] at hf
    refine r_iload h d_M_text_157 1 rfl ?_
    refine r_aload_n h d_M_text_159 0 rfl rfl ?_
    refine r_getI h fd_YM_0_33 cf_M fl_M_329 d_M_text_160 ?_
    refine r_icmp_ge h d_M_text_163 hf (fun hf => ?_) (fun hf => ?_)
    · refine r_aload_n h d_M_text_216 0 rfl rfl ?_
      refine r_dup h d_M_text_217 rfl ?_
      refine r_getI h fd_YM_0_26 cf_M fl_M_345 d_M_text_218 ?_
      refine r_iconst h d_M_text_221 ki_1 ?_
      refine r_iadd h d_M_text_222 ?_
      refine r_putI h fd_YM_0_26 cf_M fl_M_345 ⟨rfl, rfl⟩ d_M_text_223 ?_
      refine r_aload_n h d_M_text_226 0 rfl rfl ?_
      refine r_aload_n h d_M_text_227 0 rfl rfl ?_
      refine r_getIv (v := ((σ.1 0 26) + (1 : Int32))) h fd_YM_0_26 cf_M fl_M_345 d_M_text_228 rfl ?_
      refine r_iconst h d_M_text_231 ki_1 ?_
      refine r_isub h d_M_text_232 ?_
      obtain ⟨q233, e233, hf⟩ := q_bind hf
      refine r_callV (As := [.int (((σ.1 0 26) + (1 : Int32)) - (1 : Int32))]) (rest := []) h sh_YM_0 lk_M_294 vk_M_294 d_M_text_233 (by decide) rfl rfl (Nat.le_of_ble_eq_true rfl) (m_M_refused e233) ?_
      exact r_ireturn h d_M_text_236.1 (q_p1 hf) (q_p2 hf)
    · refine r_aload_n h d_M_text_166 0 rfl rfl ?_
      refine r_getR h fd_YM_0_31 cf_M fl_M_80 d_M_text_167 ?_
      refine r_bipush h d_M_text_170 kb_6 ?_
      refine r_aload_n h d_M_text_172 0 rfl rfl ?_
      refine r_getI h fd_YM_0_26 cf_M fl_M_345 d_M_text_173 ?_
      refine r_imul h d_M_text_176 ?_
      refine r_iload h d_M_text_177 1 rfl ?_
      refine r_iadd h d_M_text_179 ?_
      refine r_aload_n h d_M_text_180 0 rfl rfl ?_
      refine r_getR h fd_YM_0_34 cf_M fl_M_86 d_M_text_181 ?_
      refine r_iload h d_M_text_184 1 rfl ?_
      refine r_iald h sh_YM_26 d_M_text_186 hf (fun hf => ?_)
      refine r_iast h sh_YM_24 d_M_text_187 hf (fun hf => ?_)
      refine r_aload_n h d_M_text_188 0 rfl rfl ?_
      refine r_getR h fd_YM_0_32 cf_M fl_M_83 d_M_text_189 ?_
      refine r_bipush h d_M_text_192 kb_6 ?_
      refine r_aload_n h d_M_text_194 0 rfl rfl ?_
      refine r_getIv (v := (σ.1 0 26)) h fd_YM_0_26 cf_M fl_M_345 d_M_text_195 rfl ?_
      refine r_imul h d_M_text_198 ?_
      refine r_iload h d_M_text_199 1 rfl ?_
      refine r_iadd h d_M_text_201 ?_
      refine r_aload_n h d_M_text_202 0 rfl rfl ?_
      refine r_getR h fd_YM_0_35 cf_M fl_M_89 d_M_text_203 ?_
      refine r_iload h d_M_text_206 1 rfl ?_
      refine r_ialdv (v := (σ.1 27 (Int32.toNatClampNeg x10))) h sh_YM_27 d_M_text_208 hf rfl (fun hf => ?_)
      refine r_iast h sh_YM_25 d_M_text_209 hf (fun hf => ?_)
      refine r_iinc (ls' := [(10, .int (x10 + (1 : Int32))), (0, .ref (ya Z 0))]) h d_M_text_210 1 rfl ki_1 (by decide) rfl ?_
      refine r_goto h d_M_text_213 ?_
      refine r_sub h [1, 0] rfl ?_
      exact ih _ _ hf

set_option maxHeartbeats 4000000 in
theorem m_M_text {Z : Sy} {σ : St} {res : (Int32 × St)} {x1 : Int32} {x2 : Int32} {x3 : Int32} {x4 : Int32} {x5 : Int32} {x6 : Int32} {x7 : Int32} (hf : M_text x1 x2 x3 x4 x5 x6 x7 σ = some res) : Ct YM Z y_M_text c_M_text 11 (some .int) 4 [.ref (ya Z 0), .int x1, .int x2, .int x3, .int x4, .int x5, .int x6, .int x7] σ (some (.int res.1)) res.2 := by
  refine Ct.of pn_M (Nat.le_of_ble_eq_true rfl) rfl (fun Γ h => ?_)
  have h : IsG YM Z R_M c_M_text 11 4 (some .int) (some (.int res.1)) res.2 Γ := h
  unfold M_text at hf
  refine r_iload h d_M_text_0 4 rfl ?_
  obtain ⟨r2, e2, hf⟩ := q_bind hf
  refine r_callS (As := [.int x4]) (rest := []) h lk_M_291 sk_M_291 d_M_text_2 (by decide) rfl rfl (Nat.le_of_ble_eq_true rfl) (m_M_noSheet e2) ?_
  refine r_bif_eq h d_M_text_5 hf (fun hf => ?_) (fun hf => ?_)
  · refine r_iload_n h d_M_text_14 1 rfl rfl ?_
    refine r_iconst h d_M_text_15 ki_m1 ?_
    refine r_icmp_eq h d_M_text_16 hf (fun hf => ?_) (fun hf => ?_)
    · refine r_iload_n h d_M_text_26 2 rfl rfl ?_
      refine r_iload_n h d_M_text_27 3 rfl rfl ?_
      obtain ⟨r28, e28, hf⟩ := q_bind hf
      refine r_callS (As := [.int x2, .int x3]) (rest := []) h lk_M_243 sk_M_243 d_M_text_28 (by decide) rfl rfl (Nat.le_of_ble_eq_true rfl) (m_M_areDays e28) ?_
      refine r_bif_ne h d_M_text_31 hf (fun hf => ?_) (fun hf => ?_)
      · refine r_aload_n h d_M_text_41 0 rfl rfl ?_
        refine r_iload h d_M_text_42 4 rfl ?_
        refine r_iload h d_M_text_44 5 rfl ?_
        refine r_iload h d_M_text_46 6 rfl ?_
        refine r_iload h d_M_text_48 7 rfl ?_
        refine r_i2l h d_M_text_50 ?_
        obtain ⟨q51, e51, hf⟩ := q_bind hf
        refine r_callV (As := [.int x4, .int x5, .int x6, .long (Int32.toInt64 x7)]) (rest := []) h sh_YM_0 lk_M_298 vk_M_298 d_M_text_51 (by decide) rfl rfl (Nat.le_of_ble_eq_true rfl) (m_M_barred e51) ?_
        refine r_istore (ls' := [(8, .int q51.1), (0, .ref (ya Z 0)), (1, .int x1), (2, .int x2), (3, .int x3), (4, .int x4), (5, .int x5), (6, .int x6), (7, .int x7)]) h d_M_text_54 (by decide) rfl ?_
        refine r_iload h d_M_text_56 0 rfl ?_
        refine r_if_ge h d_M_text_58 hf (fun hf => ?_) (fun hf => ?_)
        · refine r_aload_n h d_M_text_64 1 rfl rfl ?_
          refine r_bipush h d_M_text_65 kb_60 ?_
          refine r_iload h d_M_text_67 5 rfl ?_
          refine r_imul h d_M_text_69 ?_
          refine r_iload h d_M_text_70 7 rfl ?_
          refine r_iadd h d_M_text_72 ?_
          refine r_iload h d_M_text_73 8 rfl ?_
          obtain ⟨q75, e75, hf⟩ := q_bind hf
          refine r_callV (As := [.int (((60 : Int32) * x4) + x6), .int x7]) (rest := []) h sh_YM_0 lk_M_342 vk_M_342 d_M_text_75 (by decide) rfl rfl (Nat.le_of_ble_eq_true rfl) (m_M_read e75) ?_
          refine r_istore (ls' := [(9, .int q75.1), (8, .int q51.1), (0, .ref (ya Z 0)), (1, .int x1), (2, .int x2), (3, .int x3), (4, .int x4), (5, .int x5), (6, .int x6), (7, .int x7)]) h d_M_text_78 (by decide) rfl ?_
          refine r_iload h d_M_text_80 0 rfl ?_
          refine r_if_lt h d_M_text_82 hf (fun hf => ?_) (fun hf => ?_)
          · refine r_aload_n h d_M_text_95 2 rfl rfl ?_
            refine r_getI h fd_YM_0_26 cf_M fl_M_345 d_M_text_96 ?_
            refine r_bipush h d_M_text_99 kb_10 ?_
            refine r_icmp_ne h d_M_text_101 hf (fun hf => ?_) (fun hf => ?_)
            · refine r_aload_n h d_M_text_111 2 rfl rfl ?_
              refine r_getR h fd_YM_0_27 cf_M fl_M_68 d_M_text_112 ?_
              refine r_aload_n h d_M_text_115 2 rfl rfl ?_
              refine r_getI h fd_YM_0_26 cf_M fl_M_345 d_M_text_116 ?_
              refine r_iload_n h d_M_text_119 3 rfl rfl ?_
              refine r_iast h sh_YM_20 d_M_text_120 hf (fun hf => ?_)
              refine r_aload_n h d_M_text_121 2 rfl rfl ?_
              refine r_getR h fd_YM_0_28 cf_M fl_M_71 d_M_text_122 ?_
              refine r_aload_n h d_M_text_125 2 rfl rfl ?_
              refine r_getIv (v := (q75.2.1 0 26)) h fd_YM_0_26 cf_M fl_M_345 d_M_text_126 rfl ?_
              refine r_iload_n h d_M_text_129 4 rfl rfl ?_
              refine r_iast h sh_YM_21 d_M_text_130 hf (fun hf => ?_)
              refine r_aload_n h d_M_text_131 2 rfl rfl ?_
              refine r_getR h fd_YM_0_29 cf_M fl_M_74 d_M_text_132 ?_
              refine r_aload_n h d_M_text_135 2 rfl rfl ?_
              refine r_getIv (v := (q75.2.1 0 26)) h fd_YM_0_26 cf_M fl_M_345 d_M_text_136 rfl ?_
              refine r_iload_n h d_M_text_139 5 rfl rfl ?_
              refine r_iast h sh_YM_22 d_M_text_140 hf (fun hf => ?_)
              refine r_aload_n h d_M_text_141 2 rfl rfl ?_
              refine r_getR h fd_YM_0_30 cf_M fl_M_77 d_M_text_142 ?_
              refine r_aload_n h d_M_text_145 2 rfl rfl ?_
              refine r_getIv (v := (q75.2.1 0 26)) h fd_YM_0_26 cf_M fl_M_345 d_M_text_146 rfl ?_
              refine r_aload_n h d_M_text_149 2 rfl rfl ?_
              refine r_getIv (v := (q75.2.1 0 33)) h fd_YM_0_33 cf_M fl_M_329 d_M_text_150 rfl ?_
              refine r_iast h sh_YM_23 d_M_text_153 hf (fun hf => ?_)
              refine r_iconst h d_M_text_154 ki_0 ?_
              refine r_istore (ls' := [(10, .int (0 : Int32)), (9, .int q75.1), (8, .int q51.1), (0, .ref (ya Z 0)), (1, .int x1), (2, .int x2), (3, .int x3), (4, .int x4), (5, .int x5), (6, .int x6), (7, .int x7)]) h d_M_text_155 (by decide) rfl ?_
              refine r_sub h [3, 0] rfl ?_
              exact w_M_text_L157 h _ _ _ hf
            · refine r_aload_n h d_M_text_104 2 rfl rfl ?_
              refine r_bipush h d_M_text_105 kb_m4 ?_
              obtain ⟨q107, e107, hf⟩ := q_bind hf
              refine r_callV (As := [.int (-4 : Int32)]) (rest := []) h sh_YM_0 lk_M_294 vk_M_294 d_M_text_107 (by decide) rfl rfl (Nat.le_of_ble_eq_true rfl) (m_M_refused e107) ?_
              exact r_ireturn h d_M_text_110.1 (q_p1 hf) (q_p2 hf)
          · refine r_aload_n h d_M_text_85 2 rfl rfl ?_
            refine r_bipush h d_M_text_86 kb_m100 ?_
            refine r_iload h d_M_text_88 0 rfl ?_
            refine r_isub h d_M_text_90 ?_
            obtain ⟨q91, e91, hf⟩ := q_bind hf
            refine r_callV (As := [.int ((-100 : Int32) - q75.1)]) (rest := []) h sh_YM_0 lk_M_294 vk_M_294 d_M_text_91 (by decide) rfl rfl (Nat.le_of_ble_eq_true rfl) (m_M_refused e91) ?_
            exact r_ireturn h d_M_text_94.1 (q_p1 hf) (q_p2 hf)
        · refine r_iload h d_M_text_61 0 rfl ?_
          exact r_ireturn h d_M_text_63.1 (q_p1 hf) (q_p2 hf)
      · refine r_aload_n h d_M_text_34 0 rfl rfl ?_
        refine r_bipush h d_M_text_35 kb_m2 ?_
        obtain ⟨q37, e37, hf⟩ := q_bind hf
        refine r_callV (As := [.int (-2 : Int32)]) (rest := []) h sh_YM_0 lk_M_294 vk_M_294 d_M_text_37 (by decide) rfl rfl (Nat.le_of_ble_eq_true rfl) (m_M_refused e37) ?_
        exact r_ireturn h d_M_text_40.1 (q_p1 hf) (q_p2 hf)
    · refine r_iload_n h d_M_text_19 1 rfl rfl ?_
      obtain ⟨r20, e20, hf⟩ := q_bind hf
      refine r_callS (As := [.int x1]) (rest := []) h lk_M_230 sk_M_230 d_M_text_20 (by decide) rfl rfl (Nat.le_of_ble_eq_true rfl) (m_M_isLand e20) ?_
      refine r_bif_eq h d_M_text_23 hf (fun hf => ?_) (fun hf => ?_)
      · refine r_aload_n h d_M_text_34 0 rfl rfl ?_
        refine r_bipush h d_M_text_35 kb_m2 ?_
        obtain ⟨q37, e37, hf⟩ := q_bind hf
        refine r_callV (As := [.int (-2 : Int32)]) (rest := []) h sh_YM_0 lk_M_294 vk_M_294 d_M_text_37 (by decide) rfl rfl (Nat.le_of_ble_eq_true rfl) (m_M_refused e37) ?_
        exact r_ireturn h d_M_text_40.1 (q_p1 hf) (q_p2 hf)
      · refine r_iload_n h d_M_text_26 2 rfl rfl ?_
        refine r_iload_n h d_M_text_27 3 rfl rfl ?_
        obtain ⟨r28, e28, hf⟩ := q_bind hf
        refine r_callS (As := [.int x2, .int x3]) (rest := []) h lk_M_243 sk_M_243 d_M_text_28 (by decide) rfl rfl (Nat.le_of_ble_eq_true rfl) (m_M_areDays e28) ?_
        refine r_bif_ne h d_M_text_31 hf (fun hf => ?_) (fun hf => ?_)
        · refine r_aload_n h d_M_text_41 0 rfl rfl ?_
          refine r_iload h d_M_text_42 4 rfl ?_
          refine r_iload h d_M_text_44 5 rfl ?_
          refine r_iload h d_M_text_46 6 rfl ?_
          refine r_iload h d_M_text_48 7 rfl ?_
          refine r_i2l h d_M_text_50 ?_
          obtain ⟨q51, e51, hf⟩ := q_bind hf
          refine r_callV (As := [.int x4, .int x5, .int x6, .long (Int32.toInt64 x7)]) (rest := []) h sh_YM_0 lk_M_298 vk_M_298 d_M_text_51 (by decide) rfl rfl (Nat.le_of_ble_eq_true rfl) (m_M_barred e51) ?_
          refine r_istore (ls' := [(8, .int q51.1), (0, .ref (ya Z 0)), (1, .int x1), (2, .int x2), (3, .int x3), (4, .int x4), (5, .int x5), (6, .int x6), (7, .int x7)]) h d_M_text_54 (by decide) rfl ?_
          refine r_iload h d_M_text_56 0 rfl ?_
          refine r_if_ge h d_M_text_58 hf (fun hf => ?_) (fun hf => ?_)
          · refine r_aload_n h d_M_text_64 1 rfl rfl ?_
            refine r_bipush h d_M_text_65 kb_60 ?_
            refine r_iload h d_M_text_67 5 rfl ?_
            refine r_imul h d_M_text_69 ?_
            refine r_iload h d_M_text_70 7 rfl ?_
            refine r_iadd h d_M_text_72 ?_
            refine r_iload h d_M_text_73 8 rfl ?_
            obtain ⟨q75, e75, hf⟩ := q_bind hf
            refine r_callV (As := [.int (((60 : Int32) * x4) + x6), .int x7]) (rest := []) h sh_YM_0 lk_M_342 vk_M_342 d_M_text_75 (by decide) rfl rfl (Nat.le_of_ble_eq_true rfl) (m_M_read e75) ?_
            refine r_istore (ls' := [(9, .int q75.1), (8, .int q51.1), (0, .ref (ya Z 0)), (1, .int x1), (2, .int x2), (3, .int x3), (4, .int x4), (5, .int x5), (6, .int x6), (7, .int x7)]) h d_M_text_78 (by decide) rfl ?_
            refine r_iload h d_M_text_80 0 rfl ?_
            refine r_if_lt h d_M_text_82 hf (fun hf => ?_) (fun hf => ?_)
            · refine r_aload_n h d_M_text_95 2 rfl rfl ?_
              refine r_getI h fd_YM_0_26 cf_M fl_M_345 d_M_text_96 ?_
              refine r_bipush h d_M_text_99 kb_10 ?_
              refine r_icmp_ne h d_M_text_101 hf (fun hf => ?_) (fun hf => ?_)
              · refine r_aload_n h d_M_text_111 2 rfl rfl ?_
                refine r_getR h fd_YM_0_27 cf_M fl_M_68 d_M_text_112 ?_
                refine r_aload_n h d_M_text_115 2 rfl rfl ?_
                refine r_getI h fd_YM_0_26 cf_M fl_M_345 d_M_text_116 ?_
                refine r_iload_n h d_M_text_119 3 rfl rfl ?_
                refine r_iast h sh_YM_20 d_M_text_120 hf (fun hf => ?_)
                refine r_aload_n h d_M_text_121 2 rfl rfl ?_
                refine r_getR h fd_YM_0_28 cf_M fl_M_71 d_M_text_122 ?_
                refine r_aload_n h d_M_text_125 2 rfl rfl ?_
                refine r_getIv (v := (q75.2.1 0 26)) h fd_YM_0_26 cf_M fl_M_345 d_M_text_126 rfl ?_
                refine r_iload_n h d_M_text_129 4 rfl rfl ?_
                refine r_iast h sh_YM_21 d_M_text_130 hf (fun hf => ?_)
                refine r_aload_n h d_M_text_131 2 rfl rfl ?_
                refine r_getR h fd_YM_0_29 cf_M fl_M_74 d_M_text_132 ?_
                refine r_aload_n h d_M_text_135 2 rfl rfl ?_
                refine r_getIv (v := (q75.2.1 0 26)) h fd_YM_0_26 cf_M fl_M_345 d_M_text_136 rfl ?_
                refine r_iload_n h d_M_text_139 5 rfl rfl ?_
                refine r_iast h sh_YM_22 d_M_text_140 hf (fun hf => ?_)
                refine r_aload_n h d_M_text_141 2 rfl rfl ?_
                refine r_getR h fd_YM_0_30 cf_M fl_M_77 d_M_text_142 ?_
                refine r_aload_n h d_M_text_145 2 rfl rfl ?_
                refine r_getIv (v := (q75.2.1 0 26)) h fd_YM_0_26 cf_M fl_M_345 d_M_text_146 rfl ?_
                refine r_aload_n h d_M_text_149 2 rfl rfl ?_
                refine r_getIv (v := (q75.2.1 0 33)) h fd_YM_0_33 cf_M fl_M_329 d_M_text_150 rfl ?_
                refine r_iast h sh_YM_23 d_M_text_153 hf (fun hf => ?_)
                refine r_iconst h d_M_text_154 ki_0 ?_
                refine r_istore (ls' := [(10, .int (0 : Int32)), (9, .int q75.1), (8, .int q51.1), (0, .ref (ya Z 0)), (1, .int x1), (2, .int x2), (3, .int x3), (4, .int x4), (5, .int x5), (6, .int x6), (7, .int x7)]) h d_M_text_155 (by decide) rfl ?_
                refine r_sub h [3, 0] rfl ?_
                exact w_M_text_L157 h _ _ _ hf
              · refine r_aload_n h d_M_text_104 2 rfl rfl ?_
                refine r_bipush h d_M_text_105 kb_m4 ?_
                obtain ⟨q107, e107, hf⟩ := q_bind hf
                refine r_callV (As := [.int (-4 : Int32)]) (rest := []) h sh_YM_0 lk_M_294 vk_M_294 d_M_text_107 (by decide) rfl rfl (Nat.le_of_ble_eq_true rfl) (m_M_refused e107) ?_
                exact r_ireturn h d_M_text_110.1 (q_p1 hf) (q_p2 hf)
            · refine r_aload_n h d_M_text_85 2 rfl rfl ?_
              refine r_bipush h d_M_text_86 kb_m100 ?_
              refine r_iload h d_M_text_88 0 rfl ?_
              refine r_isub h d_M_text_90 ?_
              obtain ⟨q91, e91, hf⟩ := q_bind hf
              refine r_callV (As := [.int ((-100 : Int32) - q75.1)]) (rest := []) h sh_YM_0 lk_M_294 vk_M_294 d_M_text_91 (by decide) rfl rfl (Nat.le_of_ble_eq_true rfl) (m_M_refused e91) ?_
              exact r_ireturn h d_M_text_94.1 (q_p1 hf) (q_p2 hf)
          · refine r_iload h d_M_text_61 0 rfl ?_
            exact r_ireturn h d_M_text_63.1 (q_p1 hf) (q_p2 hf)
        · refine r_aload_n h d_M_text_34 0 rfl rfl ?_
          refine r_bipush h d_M_text_35 kb_m2 ?_
          obtain ⟨q37, e37, hf⟩ := q_bind hf
          refine r_callV (As := [.int (-2 : Int32)]) (rest := []) h sh_YM_0 lk_M_294 vk_M_294 d_M_text_37 (by decide) rfl rfl (Nat.le_of_ble_eq_true rfl) (m_M_refused e37) ?_
          exact r_ireturn h d_M_text_40.1 (q_p1 hf) (q_p2 hf)
  · refine r_aload_n h d_M_text_8 0 rfl rfl ?_
    refine r_iconst h d_M_text_9 ki_m1 ?_
    obtain ⟨q10, e10, hf⟩ := q_bind hf
    refine r_callV (As := [.int (-1 : Int32)]) (rest := []) h sh_YM_0 lk_M_294 vk_M_294 d_M_text_10 (by decide) rfl rfl (Nat.le_of_ble_eq_true rfl) (m_M_refused e10) ?_
    exact r_ireturn h d_M_text_13.1 (q_p1 hf) (q_p2 hf)

