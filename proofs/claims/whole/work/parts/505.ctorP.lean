def fl_P : List (Option Nat) := [some 1, some 6, some 11, some 16, some 21, some 28, some 35, some 40, some 49, some 57, some 64, some 67, some 74, none, none]
def st0C : St := (fun k => if k = 62 then kr else if k = 77 then ks else fun _ => 0, fun _ _ => 0)
def st0M : St := (fun k => if k = 59 then km2 else if k = 44 then km1 else fun _ => 0, fun _ _ => 0)
theorem dk_P_0 : decode c_P_init 0 = .ok (.aload_n 0, 1) ∧ 0 + 1 = 1 := by decide +kernel
theorem dk_P_1 : decode c_P_init 1 = .ok (.invokespecial 3, 3) ∧ 1 + 3 = 4 := by decide +kernel
theorem dk_P_4 : decode c_P_init 4 = .ok (.aload_n 0, 1) ∧ 4 + 1 = 5 := by decide +kernel
theorem dk_P_5 : decode c_P_init 5 = .ok (.new 9, 3) ∧ 5 + 3 = 8 := by decide +kernel
theorem dk_P_8 : decode c_P_init 8 = .ok (.dup, 1) ∧ 8 + 1 = 9 := by decide +kernel
theorem dk_P_9 : decode c_P_init 9 = .ok (.invokespecial 11, 3) ∧ 9 + 3 = 12 := by decide +kernel
theorem dk_P_12 : decode c_P_init 12 = .ok (.putfield 12, 3) ∧ 12 + 3 = 15 := by decide +kernel
theorem dk_P_15 : decode c_P_init 15 = .ok (.aload_n 0, 1) ∧ 15 + 1 = 16 := by decide +kernel
theorem dk_P_16 : decode c_P_init 16 = .ok (.new 18, 3) ∧ 16 + 3 = 19 := by decide +kernel
theorem dk_P_19 : decode c_P_init 19 = .ok (.dup, 1) ∧ 19 + 1 = 20 := by decide +kernel
theorem dk_P_20 : decode c_P_init 20 = .ok (.bipush 40, 2) ∧ 20 + 2 = 22 := by decide +kernel
theorem dk_P_22 : decode c_P_init 22 = .ok (.invokespecial 20, 3) ∧ 22 + 3 = 25 := by decide +kernel
theorem dk_P_25 : decode c_P_init 25 = .ok (.putfield 23, 3) ∧ 25 + 3 = 28 := by decide +kernel
theorem dk_P_28 : decode c_P_init 28 = .ok (.aload_n 0, 1) ∧ 28 + 1 = 29 := by decide +kernel
theorem dk_P_29 : decode c_P_init 29 = .ok (.new 18, 3) ∧ 29 + 3 = 32 := by decide +kernel
theorem dk_P_32 : decode c_P_init 32 = .ok (.dup, 1) ∧ 32 + 1 = 33 := by decide +kernel
theorem dk_P_33 : decode c_P_init 33 = .ok (.bipush 12, 2) ∧ 33 + 2 = 35 := by decide +kernel
theorem dk_P_35 : decode c_P_init 35 = .ok (.invokespecial 20, 3) ∧ 35 + 3 = 38 := by decide +kernel
theorem dk_P_38 : decode c_P_init 38 = .ok (.putfield 27, 3) ∧ 38 + 3 = 41 := by decide +kernel
theorem dk_P_41 : decode c_P_init 41 = .ok (.aload_n 0, 1) ∧ 41 + 1 = 42 := by decide +kernel
theorem dk_P_42 : decode c_P_init 42 = .ok (.new 18, 3) ∧ 42 + 3 = 45 := by decide +kernel
theorem dk_P_45 : decode c_P_init 45 = .ok (.dup, 1) ∧ 45 + 1 = 46 := by decide +kernel
theorem dk_P_46 : decode c_P_init 46 = .ok (.bipush 20, 2) ∧ 46 + 2 = 48 := by decide +kernel
theorem dk_P_48 : decode c_P_init 48 = .ok (.invokespecial 20, 3) ∧ 48 + 3 = 51 := by decide +kernel
theorem dk_P_51 : decode c_P_init 51 = .ok (.putfield 30, 3) ∧ 51 + 3 = 54 := by decide +kernel
theorem dk_P_54 : decode c_P_init 54 = .ok (.aload_n 0, 1) ∧ 54 + 1 = 55 := by decide +kernel
theorem dk_P_55 : decode c_P_init 55 = .ok (.new 33, 3) ∧ 55 + 3 = 58 := by decide +kernel
theorem dk_P_58 : decode c_P_init 58 = .ok (.dup, 1) ∧ 58 + 1 = 59 := by decide +kernel
theorem dk_P_59 : decode c_P_init 59 = .ok (.invokespecial 35, 3) ∧ 59 + 3 = 62 := by decide +kernel
theorem dk_P_62 : decode c_P_init 62 = .ok (.putfield 36, 3) ∧ 62 + 3 = 65 := by decide +kernel
theorem dk_P_65 : decode c_P_init 65 = .ok (.aload_n 0, 1) ∧ 65 + 1 = 66 := by decide +kernel
theorem dk_P_66 : decode c_P_init 66 = .ok (.new 40, 3) ∧ 66 + 3 = 69 := by decide +kernel
theorem dk_P_69 : decode c_P_init 69 = .ok (.dup, 1) ∧ 69 + 1 = 70 := by decide +kernel
theorem dk_P_70 : decode c_P_init 70 = .ok (.invokespecial 42, 3) ∧ 70 + 3 = 73 := by decide +kernel
theorem dk_P_73 : decode c_P_init 73 = .ok (.putfield 43, 3) ∧ 73 + 3 = 76 := by decide +kernel
theorem dk_P_76 : decode c_P_init 76 = .ok (.aload_n 0, 1) ∧ 76 + 1 = 77 := by decide +kernel
theorem dk_P_77 : decode c_P_init 77 = .ok (.new 47, 3) ∧ 77 + 3 = 80 := by decide +kernel
theorem dk_P_80 : decode c_P_init 80 = .ok (.dup, 1) ∧ 80 + 1 = 81 := by decide +kernel
theorem dk_P_81 : decode c_P_init 81 = .ok (.invokespecial 49, 3) ∧ 81 + 3 = 84 := by decide +kernel
theorem dk_P_84 : decode c_P_init 84 = .ok (.putfield 50, 3) ∧ 84 + 3 = 87 := by decide +kernel
theorem dk_P_87 : decode c_P_init 87 = .ok (.aload_n 0, 1) ∧ 87 + 1 = 88 := by decide +kernel
theorem dk_P_88 : decode c_P_init 88 = .ok (.new 54, 3) ∧ 88 + 3 = 91 := by decide +kernel
theorem dk_P_91 : decode c_P_init 91 = .ok (.dup, 1) ∧ 91 + 1 = 92 := by decide +kernel
theorem dk_P_92 : decode c_P_init 92 = .ok (.invokespecial 56, 3) ∧ 92 + 3 = 95 := by decide +kernel
theorem dk_P_95 : decode c_P_init 95 = .ok (.putfield 57, 3) ∧ 95 + 3 = 98 := by decide +kernel
theorem dk_P_98 : decode c_P_init 98 = .ok (.aload_n 0, 1) ∧ 98 + 1 = 99 := by decide +kernel
theorem dk_P_99 : decode c_P_init 99 = .ok (.new 61, 3) ∧ 99 + 3 = 102 := by decide +kernel
theorem dk_P_102 : decode c_P_init 102 = .ok (.dup, 1) ∧ 102 + 1 = 103 := by decide +kernel
theorem dk_P_103 : decode c_P_init 103 = .ok (.invokespecial 63, 3) ∧ 103 + 3 = 106 := by decide +kernel
theorem dk_P_106 : decode c_P_init 106 = .ok (.putfield 64, 3) ∧ 106 + 3 = 109 := by decide +kernel
theorem dk_P_109 : decode c_P_init 109 = .ok (.aload_n 0, 1) ∧ 109 + 1 = 110 := by decide +kernel
theorem dk_P_110 : decode c_P_init 110 = .ok (.new 68, 3) ∧ 110 + 3 = 113 := by decide +kernel
theorem dk_P_113 : decode c_P_init 113 = .ok (.dup, 1) ∧ 113 + 1 = 114 := by decide +kernel
theorem dk_P_114 : decode c_P_init 114 = .ok (.invokespecial 70, 3) ∧ 114 + 3 = 117 := by decide +kernel
theorem dk_P_117 : decode c_P_init 117 = .ok (.putfield 71, 3) ∧ 117 + 3 = 120 := by decide +kernel
theorem dk_P_120 : decode c_P_init 120 = .ok (.aload_n 0, 1) ∧ 120 + 1 = 121 := by decide +kernel
theorem dk_P_121 : decode c_P_init 121 = .ok (.new 75, 3) ∧ 121 + 3 = 124 := by decide +kernel
theorem dk_P_124 : decode c_P_init 124 = .ok (.dup, 1) ∧ 124 + 1 = 125 := by decide +kernel
theorem dk_P_125 : decode c_P_init 125 = .ok (.invokespecial 77, 3) ∧ 125 + 3 = 128 := by decide +kernel
theorem dk_P_128 : decode c_P_init 128 = .ok (.putfield 78, 3) ∧ 128 + 3 = 131 := by decide +kernel
theorem dk_P_131 : decode c_P_init 131 = .ok (.aload_n 0, 1) ∧ 131 + 1 = 132 := by decide +kernel
theorem dk_P_132 : decode c_P_init 132 = .ok (.new 82, 3) ∧ 132 + 3 = 135 := by decide +kernel
theorem dk_P_135 : decode c_P_init 135 = .ok (.dup, 1) ∧ 135 + 1 = 136 := by decide +kernel
theorem dk_P_136 : decode c_P_init 136 = .ok (.invokespecial 84, 3) ∧ 136 + 3 = 139 := by decide +kernel
theorem dk_P_139 : decode c_P_init 139 = .ok (.putfield 85, 3) ∧ 139 + 3 = 142 := by decide +kernel
theorem dk_P_142 : decode c_P_init 142 = .ok (.aload_n 0, 1) ∧ 142 + 1 = 143 := by decide +kernel
theorem dk_P_143 : decode c_P_init 143 = .ok (.new 89, 3) ∧ 143 + 3 = 146 := by decide +kernel
theorem dk_P_146 : decode c_P_init 146 = .ok (.dup, 1) ∧ 146 + 1 = 147 := by decide +kernel
theorem dk_P_147 : decode c_P_init 147 = .ok (.invokespecial 91, 3) ∧ 147 + 3 = 150 := by decide +kernel
theorem dk_P_150 : decode c_P_init 150 = .ok (.putfield 92, 3) ∧ 150 + 3 = 153 := by decide +kernel
theorem dk_P_153 : decode c_P_init 153 = .ok (.return_, 1) := by decide +kernel
abbrev rm_P : Room := { frames := 2, cells := 77, slots := 3799, locals := 60 }
theorem kw_Roll (cI cJ : ClassId) (a : Nat → Nat) : kW cI cJ 1 fl_Roll ar_Roll kF0 a 4 = [(a 0, .inr (1, [.ref (a 1), .ref (a 2), .ref (a 3), .ref (a 4), .int 0, .int 0, .int 0])), (a 1, .inl (cI, 16, .inl (kF0 1))), (a 2, .inl (cI, 6, .inl (kF0 2))), (a 3, .inl (cI, 6, .inl (kF0 3))), (a 4, .inl (cI, 4, .inl (kF0 4)))] := rfl
theorem kz_Roll : ∀ j, j < 7 → defaultValue (ty_Roll j) = vp_V (kZ fl_Roll) j := by decide +kernel
theorem kw_Spans40 (cI cJ : ClassId) (a : Nat → Nat) : kW cI cJ 2 fl_Spans40 ar_Spans40 kF0 a 4 = [(a 0, .inr (2, [.ref (a 1), .ref (a 2), .ref (a 3), .ref (a 4), .int 0])), (a 1, .inl (cI, 40, .inl (kF0 1))), (a 2, .inl (cI, 40, .inl (kF0 2))), (a 3, .inl (cI, 40, .inl (kF0 3))), (a 4, .inl (cI, 40, .inl (kF0 4)))] := rfl
theorem kz_Spans40 : ∀ j, j < 5 → defaultValue (ty_Spans j) = vp_V (kZ fl_Spans40) j := by decide +kernel
theorem kw_Spans12 (cI cJ : ClassId) (a : Nat → Nat) : kW cI cJ 2 fl_Spans12 ar_Spans12 kF0 a 4 = [(a 0, .inr (2, [.ref (a 1), .ref (a 2), .ref (a 3), .ref (a 4), .int 0])), (a 1, .inl (cI, 12, .inl (kF0 1))), (a 2, .inl (cI, 12, .inl (kF0 2))), (a 3, .inl (cI, 12, .inl (kF0 3))), (a 4, .inl (cI, 12, .inl (kF0 4)))] := rfl
theorem kz_Spans12 : ∀ j, j < 5 → defaultValue (ty_Spans j) = vp_V (kZ fl_Spans12) j := by decide +kernel
theorem kw_Spans20 (cI cJ : ClassId) (a : Nat → Nat) : kW cI cJ 2 fl_Spans20 ar_Spans20 kF0 a 4 = [(a 0, .inr (2, [.ref (a 1), .ref (a 2), .ref (a 3), .ref (a 4), .int 0])), (a 1, .inl (cI, 20, .inl (kF0 1))), (a 2, .inl (cI, 20, .inl (kF0 2))), (a 3, .inl (cI, 20, .inl (kF0 3))), (a 4, .inl (cI, 20, .inl (kF0 4)))] := rfl
theorem kz_Spans20 : ∀ j, j < 5 → defaultValue (ty_Spans j) = vp_V (kZ fl_Spans20) j := by decide +kernel
theorem kw_Packs (cI cJ : ClassId) (a : Nat → Nat) : kW cI cJ 3 fl_Packs ar_Packs kF0 a 6 = [(a 0, .inr (3, [.ref (a 1), .ref (a 2), .ref (a 3), .int 0, .ref (a 4), .ref (a 5), .ref (a 6), .int 0])), (a 1, .inl (cI, 12, .inl (kF0 1))), (a 2, .inl (cI, 12, .inl (kF0 2))), (a 3, .inl (cI, 12, .inl (kF0 3))), (a 4, .inl (cI, 512, .inl (kF0 4))), (a 5, .inl (cI, 512, .inl (kF0 5))), (a 6, .inl (cI, 512, .inl (kF0 6)))] := rfl
theorem kz_Packs : ∀ j, j < 8 → defaultValue (ty_Packs j) = vp_V (kZ fl_Packs) j := by decide +kernel
theorem kw_Ledger (cI cJ : ClassId) (a : Nat → Nat) : kW cI cJ 4 fl_Ledger ar_Ledger kF0 a 6 = [(a 0, .inr (4, [.ref (a 1), .ref (a 2), .ref (a 3), .ref (a 4), .ref (a 5), .ref (a 6), .int 0])), (a 1, .inl (cI, 60, .inl (kF0 1))), (a 2, .inl (cI, 60, .inl (kF0 2))), (a 3, .inl (cI, 60, .inl (kF0 3))), (a 4, .inl (cI, 60, .inl (kF0 4))), (a 5, .inl (cI, 60, .inl (kF0 5))), (a 6, .inl (cI, 60, .inl (kF0 6)))] := rfl
theorem kz_Ledger : ∀ j, j < 7 → defaultValue (ty_Ledger j) = vp_V (kZ fl_Ledger) j := by decide +kernel
theorem kw_News (cI cJ : ClassId) (a : Nat → Nat) : kW cI cJ 5 fl_News ar_News kF0 a 4 = [(a 0, .inr (5, [.ref (a 1), .ref (a 2), .ref (a 3), .ref (a 4), .int 0])), (a 1, .inl (cI, 420, .inl (kF0 1))), (a 2, .inl (cJ, 7, .inr (.inl (fun _ => 0)))), (a 3, .inl (cJ, 7, .inr (.inl (fun _ => 0)))), (a 4, .inl (cI, 7, .inl (kF0 4)))] := rfl
theorem kz_News : ∀ j, j < 5 → defaultValue (ty_News j) = vp_V (kZ fl_News) j := by decide +kernel
theorem kw_Texts (cI cJ : ClassId) (a : Nat → Nat) : kW cI cJ 6 fl_Texts ar_Texts kF0 a 8 = [(a 0, .inr (6, [.ref (a 1), .ref (a 2), .ref (a 3), .ref (a 4), .ref (a 5), .ref (a 6), .int 0, .ref (a 7), .ref (a 8), .int 0])), (a 1, .inl (cI, 10, .inl (kF0 1))), (a 2, .inl (cI, 10, .inl (kF0 2))), (a 3, .inl (cI, 10, .inl (kF0 3))), (a 4, .inl (cI, 10, .inl (kF0 4))), (a 5, .inl (cI, 60, .inl (kF0 5))), (a 6, .inl (cI, 60, .inl (kF0 6))), (a 7, .inl (cI, 6, .inl (kF0 7))), (a 8, .inl (cI, 6, .inl (kF0 8)))] := rfl
theorem kz_Texts : ∀ j, j < 10 → defaultValue (ty_Texts j) = vp_V (kZ fl_Texts) j := by decide +kernel
theorem kw_Debts (cI cJ : ClassId) (a : Nat → Nat) : kW cI cJ 7 fl_Debts ar_Debts kF0 a 7 = [(a 0, .inr (7, [.ref (a 1), .ref (a 2), .ref (a 3), .ref (a 4), .ref (a 5), .ref (a 6), .ref (a 7), .int 0])), (a 1, .inl (cI, 20, .inl (kF0 1))), (a 2, .inl (cI, 20, .inl (kF0 2))), (a 3, .inl (cI, 20, .inl (kF0 3))), (a 4, .inl (cI, 20, .inl (kF0 4))), (a 5, .inl (cI, 20, .inl (kF0 5))), (a 6, .inl (cI, 20, .inl (kF0 6))), (a 7, .inl (cI, 20, .inl (kF0 7)))] := rfl
theorem kz_Debts : ∀ j, j < 8 → defaultValue (ty_Debts j) = vp_V (kZ fl_Debts) j := by decide +kernel
theorem kw_Owed (cI cJ : ClassId) (a : Nat → Nat) : kW cI cJ 8 fl_Owed ar_Owed kFr a 6 = [(a 0, .inr (8, [.ref (a 1), .ref (a 2), .ref (a 3), .ref (a 4), .ref (a 5), .ref (a 6), .int 0])), (a 1, .inl (cI, 100, .inl (kFr 1))), (a 2, .inl (cI, 100, .inl (kFr 2))), (a 3, .inl (cI, 100, .inl (kFr 3))), (a 4, .inl (cI, 10, .inl (kFr 4))), (a 5, .inl (cI, 10, .inl (kFr 5))), (a 6, .inl (cI, 4, .inl (kFr 6)))] := rfl
theorem kz_Owed : ∀ j, j < 7 → defaultValue (ty_Owed j) = vp_V (kZ fl_Owed) j := by decide +kernel
theorem kw_Rounds (cI cJ : ClassId) (a : Nat → Nat) : kW cI cJ 9 fl_Rounds ar_Rounds kF0 a 2 = [(a 0, .inr (9, [.ref (a 1), .ref (a 2), .int 0])), (a 1, .inl (cI, 10, .inl (kF0 1))), (a 2, .inl (cI, 80, .inl (kF0 2)))] := rfl
theorem kz_Rounds : ∀ j, j < 3 → defaultValue (ty_Rounds j) = vp_V (kZ fl_Rounds) j := by decide +kernel
theorem kw_Offers (cI cJ : ClassId) (a : Nat → Nat) : kW cI cJ 10 fl_Offers ar_Offers kF0 a 6 = [(a 0, .inr (10, [.ref (a 1), .ref (a 2), .ref (a 3), .ref (a 4), .ref (a 5), .ref (a 6), .int 0, .int 0, .int 0, .int 0])), (a 1, .inl (cI, 9, .inl (kF0 1))), (a 2, .inl (cI, 9, .inl (kF0 2))), (a 3, .inl (cI, 9, .inl (kF0 3))), (a 4, .inl (cI, 9, .inl (kF0 4))), (a 5, .inl (cI, 9, .inl (kF0 5))), (a 6, .inl (cI, 4, .inl (kF0 6)))] := rfl
theorem kz_Offers : ∀ j, j < 10 → defaultValue (ty_Offers j) = vp_V (kZ fl_Offers) j := by decide +kernel
theorem kw_Sheets (cI cJ : ClassId) (a : Nat → Nat) : kW cI cJ 11 fl_Sheets ar_Sheets kFs a 3 = [(a 0, .inr (11, [.ref (a 1), .ref (a 2), .ref (a 3)])), (a 1, .inl (cI, 240, .inl (kFs 1))), (a 2, .inl (cI, 4, .inl (kFs 2))), (a 3, .inl (cI, 4, .inl (kFs 3)))] := rfl
theorem kz_Sheets : ∀ j, j < 3 → defaultValue (ty_Sheets j) = vp_V (kZ fl_Sheets) j := by decide +kernel
set_option maxRecDepth 20000 in
theorem qw_C (Z : Sy) (σ : St) : q_ws YC Z σ = [q_e Z σ 0 (.inl (0, [some 1, some 6, some 11, some 16, some 21, some 28, some 35, some 40, some 49, some 57, some 64, some 67, some 74, none, none])), q_e Z σ 1 (.inl (1, [some 2, some 3, some 4, some 5, none, none, none])), q_e Z σ 2 (.inr (16, false)), q_e Z σ 3 (.inr (6, false)), q_e Z σ 4 (.inr (6, false)), q_e Z σ 5 (.inr (4, false)), q_e Z σ 6 (.inl (2, [some 7, some 8, some 9, some 10, none])), q_e Z σ 7 (.inr (40, false)), q_e Z σ 8 (.inr (40, false)), q_e Z σ 9 (.inr (40, false)), q_e Z σ 10 (.inr (40, false)), q_e Z σ 11 (.inl (2, [some 12, some 13, some 14, some 15, none])), q_e Z σ 12 (.inr (12, false)), q_e Z σ 13 (.inr (12, false)), q_e Z σ 14 (.inr (12, false)), q_e Z σ 15 (.inr (12, false)), q_e Z σ 16 (.inl (2, [some 17, some 18, some 19, some 20, none])), q_e Z σ 17 (.inr (20, false)), q_e Z σ 18 (.inr (20, false)), q_e Z σ 19 (.inr (20, false)), q_e Z σ 20 (.inr (20, false)), q_e Z σ 21 (.inl (3, [some 22, some 23, some 24, none, some 25, some 26, some 27, none])), q_e Z σ 22 (.inr (12, false)), q_e Z σ 23 (.inr (12, false)), q_e Z σ 24 (.inr (12, false)), q_e Z σ 25 (.inr (512, false)), q_e Z σ 26 (.inr (512, false)), q_e Z σ 27 (.inr (512, false)), q_e Z σ 28 (.inl (4, [some 29, some 30, some 31, some 32, some 33, some 34, none])), q_e Z σ 29 (.inr (60, false)), q_e Z σ 30 (.inr (60, false)), q_e Z σ 31 (.inr (60, false)), q_e Z σ 32 (.inr (60, false)), q_e Z σ 33 (.inr (60, false)), q_e Z σ 34 (.inr (60, false)), q_e Z σ 35 (.inl (5, [some 36, some 37, some 38, some 39, none])), q_e Z σ 36 (.inr (420, false)), q_e Z σ 37 (.inr (7, true)), q_e Z σ 38 (.inr (7, true)), q_e Z σ 39 (.inr (7, false)), q_e Z σ 40 (.inl (6, [some 41, some 42, some 43, some 44, some 45, some 46, none, some 47, some 48, none])), q_e Z σ 41 (.inr (10, false)), q_e Z σ 42 (.inr (10, false)), q_e Z σ 43 (.inr (10, false)), q_e Z σ 44 (.inr (10, false)), q_e Z σ 45 (.inr (60, false)), q_e Z σ 46 (.inr (60, false)), q_e Z σ 47 (.inr (6, false)), q_e Z σ 48 (.inr (6, false)), q_e Z σ 49 (.inl (7, [some 50, some 51, some 52, some 53, some 54, some 55, some 56, none])), q_e Z σ 50 (.inr (20, false)), q_e Z σ 51 (.inr (20, false)), q_e Z σ 52 (.inr (20, false)), q_e Z σ 53 (.inr (20, false)), q_e Z σ 54 (.inr (20, false)), q_e Z σ 55 (.inr (20, false)), q_e Z σ 56 (.inr (20, false)), q_e Z σ 57 (.inl (8, [some 58, some 59, some 60, some 61, some 62, some 63, none])), q_e Z σ 58 (.inr (100, false)), q_e Z σ 59 (.inr (100, false)), q_e Z σ 60 (.inr (100, false)), q_e Z σ 61 (.inr (10, false)), q_e Z σ 62 (.inr (10, false)), q_e Z σ 63 (.inr (4, false)), q_e Z σ 64 (.inl (9, [some 65, some 66, none])), q_e Z σ 65 (.inr (10, false)), q_e Z σ 66 (.inr (80, false)), q_e Z σ 67 (.inl (10, [some 68, some 69, some 70, some 71, some 72, some 73, none, none, none, none])), q_e Z σ 68 (.inr (9, false)), q_e Z σ 69 (.inr (9, false)), q_e Z σ 70 (.inr (9, false)), q_e Z σ 71 (.inr (9, false)), q_e Z σ 72 (.inr (9, false)), q_e Z σ 73 (.inr (4, false)), q_e Z σ 74 (.inl (11, [some 75, some 76, some 77])), q_e Z σ 75 (.inr (240, false)), q_e Z σ 76 (.inr (4, false)), q_e Z σ 77 (.inr (4, false))] := by
  show (sc_YC).mapIdx (q_e Z σ) = _
  unfold sc_YC
  simp only [List.mapIdx_cons, List.mapIdx_nil, Nat.zero_add, Nat.reduceAdd]
def adr (h0 : Nat) (a1 a2 a3 a4 a5 a6 a7 a8 a9 a10 a11 a12 a13 : Nat → Nat) : Nat → Nat := fun k => if k < 1 then h0 else if k < 6 then a1 (k - 1) else if k < 11 then a2 (k - 6) else if k < 16 then a3 (k - 11) else if k < 21 then a4 (k - 16) else if k < 28 then a5 (k - 21) else if k < 35 then a6 (k - 28) else if k < 40 then a7 (k - 35) else if k < 49 then a8 (k - 40) else if k < 57 then a9 (k - 49) else if k < 64 then a10 (k - 57) else if k < 67 then a11 (k - 64) else if k < 74 then a12 (k - 67) else a13 (k - 74)
set_option maxHeartbeats 4000000 in
set_option maxRecDepth 20000 in
theorem mk_P {l : Launch} {D : va_G} {cI cJ : ClassId} {h0 : Nat} : CtK l D cl_YC cI cJ y_P_init c_P_init 1 rm_P h0 [] (.inr (0, kZ fl_P)) (fun a => q_ws YC (l, D, a, cI, cJ, fun _ => 0) st0C) 77 3799 := by
  refine CtK.of pn_P rfl (Nat.le_of_ble_eq_true rfl) rfl (fun Γ h => ?_)
  have h : IsK l D cl_YC cI cJ R_P c_P_init 1 rm_P h0 (.inr (0, kZ fl_P)) (fun a => q_ws YC (l, D, a, cI, cJ, fun _ => 0) st0C) 77 3799 Γ := h
  refine k_aload h dk_P_0 0 rfl rfl ?_
  refine k_obj h ⟨tw_100, tw_101, tw_102⟩ ⟨by decide, by decide⟩ dk_P_1 ?_
  refine k_aload h dk_P_4 0 rfl rfl ?_
  refine k_new h (ci := 1) (fs := kZ fl_Roll) rfl cf_Roll ⟨tw_103, tw_104, tw_80⟩ kz_Roll ⟨by decide, by decide⟩ dk_P_5 (fun q1 => ?_)
  refine k_dup h dk_P_8 rfl ?_
  refine k_init h (mk_Roll (h0 := q1)) ⟨tw_105, tw_106, tw_80, tw_107⟩ ⟨rfl, by decide +kernel, by decide +kernel, by decide +kernel⟩ rfl ⟨rfl, rfl, by decide, by decide⟩ ⟨by decide, by decide⟩ rfl (Nat.le_of_ble_eq_true rfl) dk_P_9 (fun a1 e1 => ?_)
  rw [List.cons_append]
  refine k_putF h (ci := 0) (j := 0) rfl cf_P ⟨by decide, by decide, by decide⟩ tw_450 ⟨rfl, rfl⟩ (by (try simp only [List.length_set]); decide) dk_P_12 ?_
  subst e1
  refine k_aload h dk_P_15 0 rfl rfl ?_
  refine k_new h (ci := 2) (fs := kZ fl_Spans40) rfl cf_Spans ⟨tw_139, tw_140, tw_81⟩ kz_Spans40 ⟨by decide, by decide⟩ dk_P_16 (fun q2 => ?_)
  refine k_dup h dk_P_19 rfl ?_
  refine k_bipush h dk_P_20 (v := 40) (by decide) ?_
  refine k_init h (mk_Spans40 (h0 := q2)) ⟨tw_141, tw_142, tw_81, tw_143⟩ ⟨rfl, by decide +kernel, by decide +kernel, by decide +kernel⟩ rfl ⟨rfl, rfl, by decide, by decide⟩ ⟨by decide, by decide⟩ rfl (Nat.le_of_ble_eq_true rfl) dk_P_22 (fun a2 e2 => ?_)
  rw [List.cons_append]
  refine k_putF h (ci := 0) (j := 1) rfl cf_P ⟨by decide, by decide, by decide⟩ tw_451 ⟨rfl, rfl⟩ (by (try simp only [List.length_set]); decide) dk_P_25 ?_
  subst e2
  refine k_aload h dk_P_28 0 rfl rfl ?_
  refine k_new h (ci := 2) (fs := kZ fl_Spans12) rfl cf_Spans ⟨tw_139, tw_140, tw_81⟩ kz_Spans12 ⟨by decide, by decide⟩ dk_P_29 (fun q3 => ?_)
  refine k_dup h dk_P_32 rfl ?_
  refine k_bipush h dk_P_33 (v := 12) (by decide) ?_
  refine k_init h (mk_Spans12 (h0 := q3)) ⟨tw_141, tw_142, tw_81, tw_143⟩ ⟨rfl, by decide +kernel, by decide +kernel, by decide +kernel⟩ rfl ⟨rfl, rfl, by decide, by decide⟩ ⟨by decide, by decide⟩ rfl (Nat.le_of_ble_eq_true rfl) dk_P_35 (fun a3 e3 => ?_)
  rw [List.cons_append]
  refine k_putF h (ci := 0) (j := 2) rfl cf_P ⟨by decide, by decide, by decide⟩ tw_452 ⟨rfl, rfl⟩ (by (try simp only [List.length_set]); decide) dk_P_38 ?_
  subst e3
  refine k_aload h dk_P_41 0 rfl rfl ?_
  refine k_new h (ci := 2) (fs := kZ fl_Spans20) rfl cf_Spans ⟨tw_139, tw_140, tw_81⟩ kz_Spans20 ⟨by decide, by decide⟩ dk_P_42 (fun q4 => ?_)
  refine k_dup h dk_P_45 rfl ?_
  refine k_bipush h dk_P_46 (v := 20) (by decide) ?_
  refine k_init h (mk_Spans20 (h0 := q4)) ⟨tw_141, tw_142, tw_81, tw_143⟩ ⟨rfl, by decide +kernel, by decide +kernel, by decide +kernel⟩ rfl ⟨rfl, rfl, by decide, by decide⟩ ⟨by decide, by decide⟩ rfl (Nat.le_of_ble_eq_true rfl) dk_P_48 (fun a4 e4 => ?_)
  rw [List.cons_append]
  refine k_putF h (ci := 0) (j := 3) rfl cf_P ⟨by decide, by decide, by decide⟩ tw_453 ⟨rfl, rfl⟩ (by (try simp only [List.length_set]); decide) dk_P_51 ?_
  subst e4
  refine k_aload h dk_P_54 0 rfl rfl ?_
  refine k_new h (ci := 3) (fs := kZ fl_Packs) rfl cf_Packs ⟨tw_169, tw_170, tw_83⟩ kz_Packs ⟨by decide, by decide⟩ dk_P_55 (fun q5 => ?_)
  refine k_dup h dk_P_58 rfl ?_
  refine k_init h (mk_Packs (h0 := q5)) ⟨tw_171, tw_172, tw_83, tw_173⟩ ⟨rfl, by decide +kernel, by decide +kernel, by decide +kernel⟩ rfl ⟨rfl, rfl, by decide, by decide⟩ ⟨by decide, by decide⟩ rfl (Nat.le_of_ble_eq_true rfl) dk_P_59 (fun a5 e5 => ?_)
  rw [List.cons_append]
  refine k_putF h (ci := 0) (j := 4) rfl cf_P ⟨by decide, by decide, by decide⟩ tw_454 ⟨rfl, rfl⟩ (by (try simp only [List.length_set]); decide) dk_P_62 ?_
  subst e5
  refine k_aload h dk_P_65 0 rfl rfl ?_
  refine k_new h (ci := 4) (fs := kZ fl_Ledger) rfl cf_Ledger ⟨tw_205, tw_206, tw_84⟩ kz_Ledger ⟨by decide, by decide⟩ dk_P_66 (fun q6 => ?_)
  refine k_dup h dk_P_69 rfl ?_
  refine k_init h (mk_Ledger (h0 := q6)) ⟨tw_207, tw_208, tw_84, tw_209⟩ ⟨rfl, by decide +kernel, by decide +kernel, by decide +kernel⟩ rfl ⟨rfl, rfl, by decide, by decide⟩ ⟨by decide, by decide⟩ rfl (Nat.le_of_ble_eq_true rfl) dk_P_70 (fun a6 e6 => ?_)
  rw [List.cons_append]
  refine k_putF h (ci := 0) (j := 5) rfl cf_P ⟨by decide, by decide, by decide⟩ tw_455 ⟨rfl, rfl⟩ (by (try simp only [List.length_set]); decide) dk_P_73 ?_
  subst e6
  refine k_aload h dk_P_76 0 rfl rfl ?_
  refine k_new h (ci := 5) (fs := kZ fl_News) rfl cf_News ⟨tw_243, tw_244, tw_85⟩ kz_News ⟨by decide, by decide⟩ dk_P_77 (fun q7 => ?_)
  refine k_dup h dk_P_80 rfl ?_
  refine k_init h (mk_News (h0 := q7)) ⟨tw_245, tw_246, tw_85, tw_247⟩ ⟨rfl, by decide +kernel, by decide +kernel, by decide +kernel⟩ rfl ⟨rfl, rfl, by decide, by decide⟩ ⟨by decide, by decide⟩ rfl (Nat.le_of_ble_eq_true rfl) dk_P_81 (fun a7 e7 => ?_)
  rw [List.cons_append]
  refine k_putF h (ci := 0) (j := 6) rfl cf_P ⟨by decide, by decide, by decide⟩ tw_456 ⟨rfl, rfl⟩ (by (try simp only [List.length_set]); decide) dk_P_84 ?_
  subst e7
  refine k_aload h dk_P_87 0 rfl rfl ?_
  refine k_new h (ci := 6) (fs := kZ fl_Texts) rfl cf_Texts ⟨tw_267, tw_268, tw_86⟩ kz_Texts ⟨by decide, by decide⟩ dk_P_88 (fun q8 => ?_)
  refine k_dup h dk_P_91 rfl ?_
  refine k_init h (mk_Texts (h0 := q8)) ⟨tw_269, tw_270, tw_86, tw_271⟩ ⟨rfl, by decide +kernel, by decide +kernel, by decide +kernel⟩ rfl ⟨rfl, rfl, by decide, by decide⟩ ⟨by decide, by decide⟩ rfl (Nat.le_of_ble_eq_true rfl) dk_P_92 (fun a8 e8 => ?_)
  rw [List.cons_append]
  refine k_putF h (ci := 0) (j := 7) rfl cf_P ⟨by decide, by decide, by decide⟩ tw_457 ⟨rfl, rfl⟩ (by (try simp only [List.length_set]); decide) dk_P_95 ?_
  subst e8
  refine k_aload h dk_P_98 0 rfl rfl ?_
  refine k_new h (ci := 7) (fs := kZ fl_Debts) rfl cf_Debts ⟨tw_305, tw_306, tw_87⟩ kz_Debts ⟨by decide, by decide⟩ dk_P_99 (fun q9 => ?_)
  refine k_dup h dk_P_102 rfl ?_
  refine k_init h (mk_Debts (h0 := q9)) ⟨tw_307, tw_308, tw_87, tw_309⟩ ⟨rfl, by decide +kernel, by decide +kernel, by decide +kernel⟩ rfl ⟨rfl, rfl, by decide, by decide⟩ ⟨by decide, by decide⟩ rfl (Nat.le_of_ble_eq_true rfl) dk_P_103 (fun a9 e9 => ?_)
  rw [List.cons_append]
  refine k_putF h (ci := 0) (j := 8) rfl cf_P ⟨by decide, by decide, by decide⟩ tw_458 ⟨rfl, rfl⟩ (by (try simp only [List.length_set]); decide) dk_P_106 ?_
  subst e9
  refine k_aload h dk_P_109 0 rfl rfl ?_
  refine k_new h (ci := 8) (fs := kZ fl_Owed) rfl cf_Owed ⟨tw_344, tw_345, tw_88⟩ kz_Owed ⟨by decide, by decide⟩ dk_P_110 (fun q10 => ?_)
  refine k_dup h dk_P_113 rfl ?_
  refine k_init h (mk_Owed (h0 := q10)) ⟨tw_346, tw_347, tw_88, tw_348⟩ ⟨rfl, by decide +kernel, by decide +kernel, by decide +kernel⟩ rfl ⟨rfl, rfl, by decide, by decide⟩ ⟨by decide, by decide⟩ rfl (Nat.le_of_ble_eq_true rfl) dk_P_114 (fun a10 e10 => ?_)
  rw [List.cons_append]
  refine k_putF h (ci := 0) (j := 9) rfl cf_P ⟨by decide, by decide, by decide⟩ tw_459 ⟨rfl, rfl⟩ (by (try simp only [List.length_set]); decide) dk_P_117 ?_
  subst e10
  refine k_aload h dk_P_120 0 rfl rfl ?_
  refine k_new h (ci := 9) (fs := kZ fl_Rounds) rfl cf_Rounds ⟨tw_374, tw_375, tw_89⟩ kz_Rounds ⟨by decide, by decide⟩ dk_P_121 (fun q11 => ?_)
  refine k_dup h dk_P_124 rfl ?_
  refine k_init h (mk_Rounds (h0 := q11)) ⟨tw_376, tw_377, tw_89, tw_378⟩ ⟨rfl, by decide +kernel, by decide +kernel, by decide +kernel⟩ rfl ⟨rfl, rfl, by decide, by decide⟩ ⟨by decide, by decide⟩ rfl (Nat.le_of_ble_eq_true rfl) dk_P_125 (fun a11 e11 => ?_)
  rw [List.cons_append]
  refine k_putF h (ci := 0) (j := 10) rfl cf_P ⟨by decide, by decide, by decide⟩ tw_460 ⟨rfl, rfl⟩ (by (try simp only [List.length_set]); decide) dk_P_128 ?_
  subst e11
  refine k_aload h dk_P_131 0 rfl rfl ?_
  refine k_new h (ci := 10) (fs := kZ fl_Offers) rfl cf_Offers ⟨tw_392, tw_393, tw_90⟩ kz_Offers ⟨by decide, by decide⟩ dk_P_132 (fun q12 => ?_)
  refine k_dup h dk_P_135 rfl ?_
  refine k_init h (mk_Offers (h0 := q12)) ⟨tw_394, tw_395, tw_90, tw_396⟩ ⟨rfl, by decide +kernel, by decide +kernel, by decide +kernel⟩ rfl ⟨rfl, rfl, by decide, by decide⟩ ⟨by decide, by decide⟩ rfl (Nat.le_of_ble_eq_true rfl) dk_P_136 (fun a12 e12 => ?_)
  rw [List.cons_append]
  refine k_putF h (ci := 0) (j := 11) rfl cf_P ⟨by decide, by decide, by decide⟩ tw_461 ⟨rfl, rfl⟩ (by (try simp only [List.length_set]); decide) dk_P_139 ?_
  subst e12
  refine k_aload h dk_P_142 0 rfl rfl ?_
  refine k_new h (ci := 11) (fs := kZ fl_Sheets) rfl cf_Sheets ⟨tw_432, tw_433, tw_91⟩ kz_Sheets ⟨by decide, by decide⟩ dk_P_143 (fun q13 => ?_)
  refine k_dup h dk_P_146 rfl ?_
  refine k_init h (mk_Sheets (h0 := q13)) ⟨tw_434, tw_435, tw_91, tw_436⟩ ⟨rfl, by decide +kernel, by decide +kernel, by decide +kernel⟩ rfl ⟨rfl, rfl, by decide, by decide⟩ ⟨by decide, by decide⟩ rfl (Nat.le_of_ble_eq_true rfl) dk_P_147 (fun a13 e13 => ?_)
  rw [List.cons_append]
  refine k_putF h (ci := 0) (j := 12) rfl cf_P ⟨by decide, by decide, by decide⟩ tw_462 ⟨rfl, rfl⟩ (by (try simp only [List.length_set]); decide) dk_P_150 ?_
  subst e13
  refine k_ret h (adr h0 a1 a2 a3 a4 a5 a6 a7 a8 a9 a10 a11 a12 a13) rfl ?_ dk_P_153
  rw [qw_C, kw_Roll, kw_Spans40, kw_Spans12, kw_Spans20, kw_Packs, kw_Ledger, kw_News, kw_Texts, kw_Debts, kw_Owed, kw_Rounds, kw_Offers, kw_Sheets]
  rfl
