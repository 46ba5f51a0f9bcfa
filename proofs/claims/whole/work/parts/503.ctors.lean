def kF0 : Nat → Nat → Int32 := fun _ _ => 0
def kr : Nat → Int32 := fun x => if x < 10 then 1 else 0
def ks : Nat → Int32 := fun x => if x < 4 then -9 else 0
def kFr : Nat → Nat → Int32 := fun i => if i = 5 then kr else fun _ => 0
def kFs : Nat → Nat → Int32 := fun i => if i = 3 then ks else fun _ => 0
theorem kr_eq : upd (upd (upd (upd (upd (upd (upd (upd (upd (upd (fun _ => 0) (Int32.toNatClampNeg 0) 1) (Int32.toNatClampNeg 1) 1) (Int32.toNatClampNeg 2) 1) (Int32.toNatClampNeg 3) 1) (Int32.toNatClampNeg 4) 1) (Int32.toNatClampNeg 5) 1) (Int32.toNatClampNeg 6) 1) (Int32.toNatClampNeg 7) 1) (Int32.toNatClampNeg 8) 1) (Int32.toNatClampNeg 9) 1 = kFr 5 := by
  funext x
  show _ = if x < 10 then 1 else 0
  by_cases h : x < 10
  · rw [if_pos h]
    rcases (show x = 0 ∨ x = 1 ∨ x = 2 ∨ x = 3 ∨ x = 4 ∨ x = 5 ∨ x = 6 ∨ x = 7 ∨ x = 8 ∨ x = 9 by omega) with z | z | z | z | z | z | z | z | z | z <;> subst z <;> decide
  · rw [if_neg h]
    have t : Int32.toNatClampNeg 0 = 0 ∧ Int32.toNatClampNeg 1 = 1 ∧ Int32.toNatClampNeg 2 = 2 ∧ Int32.toNatClampNeg 3 = 3 ∧ Int32.toNatClampNeg 4 = 4 ∧ Int32.toNatClampNeg 5 = 5 ∧ Int32.toNatClampNeg 6 = 6 ∧ Int32.toNatClampNeg 7 = 7 ∧ Int32.toNatClampNeg 8 = 8 ∧ Int32.toNatClampNeg 9 = 9 := by decide
    obtain ⟨t0, t1, t2, t3, t4, t5, t6, t7, t8, t9⟩ := t
    rw [t0, t1, t2, t3, t4, t5, t6, t7, t8, t9]
    simp only [upd_at]
    rw [if_neg (by omega), if_neg (by omega), if_neg (by omega), if_neg (by omega), if_neg (by omega), if_neg (by omega), if_neg (by omega), if_neg (by omega), if_neg (by omega), if_neg (by omega)]
theorem ks_eq : upd (upd (upd (upd (fun _ => 0) (Int32.toNatClampNeg 0) (-9)) (Int32.toNatClampNeg 1) (-9)) (Int32.toNatClampNeg 2) (-9)) (Int32.toNatClampNeg 3) (-9) = kFs 3 := by
  funext x
  show _ = if x < 4 then -9 else 0
  by_cases h : x < 4
  · rw [if_pos h]
    rcases (show x = 0 ∨ x = 1 ∨ x = 2 ∨ x = 3 by omega) with z | z | z | z <;> subst z <;> decide
  · rw [if_neg h]
    have t : Int32.toNatClampNeg 0 = 0 ∧ Int32.toNatClampNeg 1 = 1 ∧ Int32.toNatClampNeg 2 = 2 ∧ Int32.toNatClampNeg 3 = 3 := by decide
    obtain ⟨t0, t1, t2, t3⟩ := t
    rw [t0, t1, t2, t3]
    simp only [upd_at]
    rw [if_neg (by omega), if_neg (by omega), if_neg (by omega), if_neg (by omega)]
def fl_Roll : List (Option Nat) := [some 1, some 2, some 3, some 4, none, none, none]
def ar_Roll : List (Nat × Bool) := [(16, false), (6, false), (6, false), (4, false)]
theorem dk_Roll_0 : decode c_Roll_init 0 = .ok (.aload_n 0, 1) ∧ 0 + 1 = 1 := by decide +kernel
theorem dk_Roll_1 : decode c_Roll_init 1 = .ok (.invokespecial 3, 3) ∧ 1 + 3 = 4 := by decide +kernel
theorem dk_Roll_4 : decode c_Roll_init 4 = .ok (.aload_n 0, 1) ∧ 4 + 1 = 5 := by decide +kernel
theorem dk_Roll_5 : decode c_Roll_init 5 = .ok (.bipush 16, 2) ∧ 5 + 2 = 7 := by decide +kernel
theorem dk_Roll_7 : decode c_Roll_init 7 = .ok (.newarray .int, 2) ∧ 7 + 2 = 9 := by decide +kernel
theorem dk_Roll_9 : decode c_Roll_init 9 = .ok (.putfield 9, 3) ∧ 9 + 3 = 12 := by decide +kernel
theorem dk_Roll_12 : decode c_Roll_init 12 = .ok (.aload_n 0, 1) ∧ 12 + 1 = 13 := by decide +kernel
theorem dk_Roll_13 : decode c_Roll_init 13 = .ok (.bipush 6, 2) ∧ 13 + 2 = 15 := by decide +kernel
theorem dk_Roll_15 : decode c_Roll_init 15 = .ok (.newarray .int, 2) ∧ 15 + 2 = 17 := by decide +kernel
theorem dk_Roll_17 : decode c_Roll_init 17 = .ok (.putfield 15, 3) ∧ 17 + 3 = 20 := by decide +kernel
theorem dk_Roll_20 : decode c_Roll_init 20 = .ok (.aload_n 0, 1) ∧ 20 + 1 = 21 := by decide +kernel
theorem dk_Roll_21 : decode c_Roll_init 21 = .ok (.bipush 6, 2) ∧ 21 + 2 = 23 := by decide +kernel
theorem dk_Roll_23 : decode c_Roll_init 23 = .ok (.newarray .int, 2) ∧ 23 + 2 = 25 := by decide +kernel
theorem dk_Roll_25 : decode c_Roll_init 25 = .ok (.putfield 18, 3) ∧ 25 + 3 = 28 := by decide +kernel
theorem dk_Roll_28 : decode c_Roll_init 28 = .ok (.aload_n 0, 1) ∧ 28 + 1 = 29 := by decide +kernel
theorem dk_Roll_29 : decode c_Roll_init 29 = .ok (.iconst 4, 1) ∧ 29 + 1 = 30 := by decide +kernel
theorem dk_Roll_30 : decode c_Roll_init 30 = .ok (.newarray .int, 2) ∧ 30 + 2 = 32 := by decide +kernel
theorem dk_Roll_32 : decode c_Roll_init 32 = .ok (.putfield 21, 3) ∧ 32 + 3 = 35 := by decide +kernel
theorem dk_Roll_35 : decode c_Roll_init 35 = .ok (.return_, 1) := by decide +kernel
abbrev rm_Roll : Room := { frames := 1, cells := 4, slots := 32, locals := 20 }
set_option maxHeartbeats 4000000 in
set_option maxRecDepth 20000 in
theorem mk_Roll {l : Launch} {D : va_G} {cI cJ : ClassId} {h0 : Nat} : CtK l D cl_YC cI cJ y_Roll_init c_Roll_init 1 rm_Roll h0 [] (.inr (1, kZ fl_Roll)) (fun a => kW cI cJ 1 fl_Roll ar_Roll kF0 a 4) 4 32 := by
  refine CtK.of pn_Roll rfl (Nat.le_of_ble_eq_true rfl) rfl (fun Γ h => ?_)
  have h : IsK l D cl_YC cI cJ R_Roll c_Roll_init 1 rm_Roll h0 (.inr (1, kZ fl_Roll)) (fun a => kW cI cJ 1 fl_Roll ar_Roll kF0 a 4) 4 32 Γ := h
  have e0 : [(h0, (.inr (1, kZ fl_Roll) : va_E))] = kW cI cJ 1 fl_Roll ar_Roll kF0 (fun _ => h0) 0 := by unfold kW; rw [kF_0 _ (by decide)]; rfl
  rw [e0]
  refine k_aload h dk_Roll_0 0 rfl rfl ?_
  refine k_obj h ⟨tw_108, tw_101, tw_102⟩ ⟨by decide, by decide⟩ dk_Roll_1 ?_
  refine k_aload h dk_Roll_4 0 rfl rfl ?_
  refine k_bipush h dk_Roll_5 (v := 16) (by decide) ?_
  refine k_newI h (N := 16) tw_138 ⟨by decide, by decide, by decide⟩ ⟨by decide, by decide⟩ dk_Roll_7 (fun q1 => ?_)
  refine k_fin h (j := 0) (t := 0) rfl rfl cf_Roll ⟨by decide, by decide, by decide⟩ tw_109 (fun z => ⟨rfl, rfl⟩) ⟨rfl, by decide⟩ rfl rfl dk_Roll_9 ?_
  refine k_aload h dk_Roll_12 0 rfl rfl ?_
  refine k_bipush h dk_Roll_13 (v := 6) (by decide) ?_
  refine k_newI h (N := 6) tw_138 ⟨by decide, by decide, by decide⟩ ⟨by decide, by decide⟩ dk_Roll_15 (fun q2 => ?_)
  refine k_fin h (j := 1) (t := 1) rfl rfl cf_Roll ⟨by decide, by decide, by decide⟩ tw_111 (fun z => ⟨rfl, rfl⟩) ⟨rfl, by decide⟩ rfl rfl dk_Roll_17 ?_
  refine k_aload h dk_Roll_20 0 rfl rfl ?_
  refine k_bipush h dk_Roll_21 (v := 6) (by decide) ?_
  refine k_newI h (N := 6) tw_138 ⟨by decide, by decide, by decide⟩ ⟨by decide, by decide⟩ dk_Roll_23 (fun q3 => ?_)
  refine k_fin h (j := 2) (t := 2) rfl rfl cf_Roll ⟨by decide, by decide, by decide⟩ tw_113 (fun z => ⟨rfl, rfl⟩) ⟨rfl, by decide⟩ rfl rfl dk_Roll_25 ?_
  refine k_aload h dk_Roll_28 0 rfl rfl ?_
  refine k_iconst h dk_Roll_29 (v := 4) (by decide) ?_
  refine k_newI h (N := 4) tw_138 ⟨by decide, by decide, by decide⟩ ⟨by decide, by decide⟩ dk_Roll_30 (fun q4 => ?_)
  refine k_fin h (j := 3) (t := 3) rfl rfl cf_Roll ⟨by decide, by decide, by decide⟩ tw_115 (fun z => ⟨rfl, rfl⟩) ⟨rfl, by decide⟩ rfl rfl dk_Roll_32 ?_
  exact k_ret h _ rfl rfl dk_Roll_35
def fl_Spans40 : List (Option Nat) := [some 1, some 2, some 3, some 4, none]
def ar_Spans40 : List (Nat × Bool) := [(40, false), (40, false), (40, false), (40, false)]
theorem dk_Spans40_0 : decode c_Spans_init 0 = .ok (.aload_n 0, 1) ∧ 0 + 1 = 1 := by decide +kernel
theorem dk_Spans40_1 : decode c_Spans_init 1 = .ok (.invokespecial 3, 3) ∧ 1 + 3 = 4 := by decide +kernel
theorem dk_Spans40_4 : decode c_Spans_init 4 = .ok (.iconst 0, 1) ∧ 4 + 1 = 5 := by decide +kernel
theorem dk_Spans40_5 : decode c_Spans_init 5 = .ok (.iload_n 1, 1) ∧ 5 + 1 = 6 := by decide +kernel
theorem dk_Spans40_6 : decode c_Spans_init 6 = .ok (.invokestatic 9, 3) ∧ 6 + 3 = 9 := by decide +kernel
theorem dk_Spans40_9 : decode c_Spans_init 9 = .ok (.istore_n 2, 1) ∧ 9 + 1 = 10 := by decide +kernel
theorem dk_Spans40_10 : decode c_Spans_init 10 = .ok (.aload_n 0, 1) ∧ 10 + 1 = 11 := by decide +kernel
theorem dk_Spans40_11 : decode c_Spans_init 11 = .ok (.iload_n 2, 1) ∧ 11 + 1 = 12 := by decide +kernel
theorem dk_Spans40_12 : decode c_Spans_init 12 = .ok (.newarray .int, 2) ∧ 12 + 2 = 14 := by decide +kernel
theorem dk_Spans40_14 : decode c_Spans_init 14 = .ok (.putfield 15, 3) ∧ 14 + 3 = 17 := by decide +kernel
theorem dk_Spans40_17 : decode c_Spans_init 17 = .ok (.aload_n 0, 1) ∧ 17 + 1 = 18 := by decide +kernel
theorem dk_Spans40_18 : decode c_Spans_init 18 = .ok (.iload_n 2, 1) ∧ 18 + 1 = 19 := by decide +kernel
theorem dk_Spans40_19 : decode c_Spans_init 19 = .ok (.newarray .int, 2) ∧ 19 + 2 = 21 := by decide +kernel
theorem dk_Spans40_21 : decode c_Spans_init 21 = .ok (.putfield 21, 3) ∧ 21 + 3 = 24 := by decide +kernel
theorem dk_Spans40_24 : decode c_Spans_init 24 = .ok (.aload_n 0, 1) ∧ 24 + 1 = 25 := by decide +kernel
theorem dk_Spans40_25 : decode c_Spans_init 25 = .ok (.iload_n 2, 1) ∧ 25 + 1 = 26 := by decide +kernel
theorem dk_Spans40_26 : decode c_Spans_init 26 = .ok (.newarray .int, 2) ∧ 26 + 2 = 28 := by decide +kernel
theorem dk_Spans40_28 : decode c_Spans_init 28 = .ok (.putfield 24, 3) ∧ 28 + 3 = 31 := by decide +kernel
theorem dk_Spans40_31 : decode c_Spans_init 31 = .ok (.aload_n 0, 1) ∧ 31 + 1 = 32 := by decide +kernel
theorem dk_Spans40_32 : decode c_Spans_init 32 = .ok (.iload_n 2, 1) ∧ 32 + 1 = 33 := by decide +kernel
theorem dk_Spans40_33 : decode c_Spans_init 33 = .ok (.newarray .int, 2) ∧ 33 + 2 = 35 := by decide +kernel
theorem dk_Spans40_35 : decode c_Spans_init 35 = .ok (.putfield 27, 3) ∧ 35 + 3 = 38 := by decide +kernel
theorem dk_Spans40_38 : decode c_Spans_init 38 = .ok (.return_, 1) := by decide +kernel
abbrev rm_Spans40 : Room := { frames := 1, cells := 4, slots := 160, locals := 20 }
set_option maxHeartbeats 4000000 in
set_option maxRecDepth 20000 in
theorem mk_Spans40 {l : Launch} {D : va_G} {cI cJ : ClassId} {h0 : Nat} : CtK l D cl_YC cI cJ y_Spans_init c_Spans_init 3 rm_Spans40 h0 [.int 40] (.inr (2, kZ fl_Spans40)) (fun a => kW cI cJ 2 fl_Spans40 ar_Spans40 kF0 a 4) 4 160 := by
  refine CtK.of pn_Spans rfl (Nat.le_of_ble_eq_true rfl) rfl (fun Γ h => ?_)
  have h : IsK l D cl_YC cI cJ R_Spans c_Spans_init 3 rm_Spans40 h0 (.inr (2, kZ fl_Spans40)) (fun a => kW cI cJ 2 fl_Spans40 ar_Spans40 kF0 a 4) 4 160 Γ := h
  have e0 : [(h0, (.inr (2, kZ fl_Spans40) : va_E))] = kW cI cJ 2 fl_Spans40 ar_Spans40 kF0 (fun _ => h0) 0 := by unfold kW; rw [kF_0 _ (by decide)]; rfl
  rw [e0]
  refine k_aload h dk_Spans40_0 0 rfl rfl ?_
  refine k_obj h ⟨tw_144, tw_101, tw_102⟩ ⟨by decide, by decide⟩ dk_Spans40_1 ?_
  refine k_iconst h dk_Spans40_4 (v := 0) (by decide) ?_
  refine k_iload h dk_Spans40_5 1 rfl rfl ?_
  refine k_max h ⟨tw_145, tw_146, tw_82, tw_147⟩ ⟨by decide, by decide, by decide, by decide⟩ dk_Spans40_6 ?_
  rw [show (if (0 : Int32) < 40 then (40 : Int32) else 0) = 40 by decide]
  refine k_istore h dk_Spans40_9 rfl (by decide) rfl ?_
  refine k_aload h dk_Spans40_10 1 rfl rfl ?_
  refine k_iload h dk_Spans40_11 0 rfl rfl ?_
  refine k_newI h (N := 40) tw_138 ⟨by decide, by decide, by decide⟩ ⟨by decide, by decide⟩ dk_Spans40_12 (fun q1 => ?_)
  refine k_fin h (j := 0) (t := 0) rfl rfl cf_Spans ⟨by decide, by decide, by decide⟩ tw_148 (fun z => ⟨rfl, rfl⟩) ⟨rfl, by decide⟩ rfl rfl dk_Spans40_14 ?_
  refine k_aload h dk_Spans40_17 1 rfl rfl ?_
  refine k_iload h dk_Spans40_18 0 rfl rfl ?_
  refine k_newI h (N := 40) tw_138 ⟨by decide, by decide, by decide⟩ ⟨by decide, by decide⟩ dk_Spans40_19 (fun q2 => ?_)
  refine k_fin h (j := 1) (t := 1) rfl rfl cf_Spans ⟨by decide, by decide, by decide⟩ tw_150 (fun z => ⟨rfl, rfl⟩) ⟨rfl, by decide⟩ rfl rfl dk_Spans40_21 ?_
  refine k_aload h dk_Spans40_24 1 rfl rfl ?_
  refine k_iload h dk_Spans40_25 0 rfl rfl ?_
  refine k_newI h (N := 40) tw_138 ⟨by decide, by decide, by decide⟩ ⟨by decide, by decide⟩ dk_Spans40_26 (fun q3 => ?_)
  refine k_fin h (j := 2) (t := 2) rfl rfl cf_Spans ⟨by decide, by decide, by decide⟩ tw_152 (fun z => ⟨rfl, rfl⟩) ⟨rfl, by decide⟩ rfl rfl dk_Spans40_28 ?_
  refine k_aload h dk_Spans40_31 1 rfl rfl ?_
  refine k_iload h dk_Spans40_32 0 rfl rfl ?_
  refine k_newI h (N := 40) tw_138 ⟨by decide, by decide, by decide⟩ ⟨by decide, by decide⟩ dk_Spans40_33 (fun q4 => ?_)
  refine k_fin h (j := 3) (t := 3) rfl rfl cf_Spans ⟨by decide, by decide, by decide⟩ tw_154 (fun z => ⟨rfl, rfl⟩) ⟨rfl, by decide⟩ rfl rfl dk_Spans40_35 ?_
  exact k_ret h _ rfl rfl dk_Spans40_38
def fl_Spans12 : List (Option Nat) := [some 1, some 2, some 3, some 4, none]
def ar_Spans12 : List (Nat × Bool) := [(12, false), (12, false), (12, false), (12, false)]
theorem dk_Spans12_0 : decode c_Spans_init 0 = .ok (.aload_n 0, 1) ∧ 0 + 1 = 1 := by decide +kernel
theorem dk_Spans12_1 : decode c_Spans_init 1 = .ok (.invokespecial 3, 3) ∧ 1 + 3 = 4 := by decide +kernel
theorem dk_Spans12_4 : decode c_Spans_init 4 = .ok (.iconst 0, 1) ∧ 4 + 1 = 5 := by decide +kernel
theorem dk_Spans12_5 : decode c_Spans_init 5 = .ok (.iload_n 1, 1) ∧ 5 + 1 = 6 := by decide +kernel
theorem dk_Spans12_6 : decode c_Spans_init 6 = .ok (.invokestatic 9, 3) ∧ 6 + 3 = 9 := by decide +kernel
theorem dk_Spans12_9 : decode c_Spans_init 9 = .ok (.istore_n 2, 1) ∧ 9 + 1 = 10 := by decide +kernel
theorem dk_Spans12_10 : decode c_Spans_init 10 = .ok (.aload_n 0, 1) ∧ 10 + 1 = 11 := by decide +kernel
theorem dk_Spans12_11 : decode c_Spans_init 11 = .ok (.iload_n 2, 1) ∧ 11 + 1 = 12 := by decide +kernel
theorem dk_Spans12_12 : decode c_Spans_init 12 = .ok (.newarray .int, 2) ∧ 12 + 2 = 14 := by decide +kernel
theorem dk_Spans12_14 : decode c_Spans_init 14 = .ok (.putfield 15, 3) ∧ 14 + 3 = 17 := by decide +kernel
theorem dk_Spans12_17 : decode c_Spans_init 17 = .ok (.aload_n 0, 1) ∧ 17 + 1 = 18 := by decide +kernel
theorem dk_Spans12_18 : decode c_Spans_init 18 = .ok (.iload_n 2, 1) ∧ 18 + 1 = 19 := by decide +kernel
theorem dk_Spans12_19 : decode c_Spans_init 19 = .ok (.newarray .int, 2) ∧ 19 + 2 = 21 := by decide +kernel
theorem dk_Spans12_21 : decode c_Spans_init 21 = .ok (.putfield 21, 3) ∧ 21 + 3 = 24 := by decide +kernel
theorem dk_Spans12_24 : decode c_Spans_init 24 = .ok (.aload_n 0, 1) ∧ 24 + 1 = 25 := by decide +kernel
theorem dk_Spans12_25 : decode c_Spans_init 25 = .ok (.iload_n 2, 1) ∧ 25 + 1 = 26 := by decide +kernel
theorem dk_Spans12_26 : decode c_Spans_init 26 = .ok (.newarray .int, 2) ∧ 26 + 2 = 28 := by decide +kernel
theorem dk_Spans12_28 : decode c_Spans_init 28 = .ok (.putfield 24, 3) ∧ 28 + 3 = 31 := by decide +kernel
theorem dk_Spans12_31 : decode c_Spans_init 31 = .ok (.aload_n 0, 1) ∧ 31 + 1 = 32 := by decide +kernel
theorem dk_Spans12_32 : decode c_Spans_init 32 = .ok (.iload_n 2, 1) ∧ 32 + 1 = 33 := by decide +kernel
theorem dk_Spans12_33 : decode c_Spans_init 33 = .ok (.newarray .int, 2) ∧ 33 + 2 = 35 := by decide +kernel
theorem dk_Spans12_35 : decode c_Spans_init 35 = .ok (.putfield 27, 3) ∧ 35 + 3 = 38 := by decide +kernel
theorem dk_Spans12_38 : decode c_Spans_init 38 = .ok (.return_, 1) := by decide +kernel
abbrev rm_Spans12 : Room := { frames := 1, cells := 4, slots := 48, locals := 20 }
set_option maxHeartbeats 4000000 in
set_option maxRecDepth 20000 in
theorem mk_Spans12 {l : Launch} {D : va_G} {cI cJ : ClassId} {h0 : Nat} : CtK l D cl_YC cI cJ y_Spans_init c_Spans_init 3 rm_Spans12 h0 [.int 12] (.inr (2, kZ fl_Spans12)) (fun a => kW cI cJ 2 fl_Spans12 ar_Spans12 kF0 a 4) 4 48 := by
  refine CtK.of pn_Spans rfl (Nat.le_of_ble_eq_true rfl) rfl (fun Γ h => ?_)
  have h : IsK l D cl_YC cI cJ R_Spans c_Spans_init 3 rm_Spans12 h0 (.inr (2, kZ fl_Spans12)) (fun a => kW cI cJ 2 fl_Spans12 ar_Spans12 kF0 a 4) 4 48 Γ := h
  have e0 : [(h0, (.inr (2, kZ fl_Spans12) : va_E))] = kW cI cJ 2 fl_Spans12 ar_Spans12 kF0 (fun _ => h0) 0 := by unfold kW; rw [kF_0 _ (by decide)]; rfl
  rw [e0]
  refine k_aload h dk_Spans12_0 0 rfl rfl ?_
  refine k_obj h ⟨tw_144, tw_101, tw_102⟩ ⟨by decide, by decide⟩ dk_Spans12_1 ?_
  refine k_iconst h dk_Spans12_4 (v := 0) (by decide) ?_
  refine k_iload h dk_Spans12_5 1 rfl rfl ?_
  refine k_max h ⟨tw_145, tw_146, tw_82, tw_147⟩ ⟨by decide, by decide, by decide, by decide⟩ dk_Spans12_6 ?_
  rw [show (if (0 : Int32) < 12 then (12 : Int32) else 0) = 12 by decide]
  refine k_istore h dk_Spans12_9 rfl (by decide) rfl ?_
  refine k_aload h dk_Spans12_10 1 rfl rfl ?_
  refine k_iload h dk_Spans12_11 0 rfl rfl ?_
  refine k_newI h (N := 12) tw_138 ⟨by decide, by decide, by decide⟩ ⟨by decide, by decide⟩ dk_Spans12_12 (fun q1 => ?_)
  refine k_fin h (j := 0) (t := 0) rfl rfl cf_Spans ⟨by decide, by decide, by decide⟩ tw_148 (fun z => ⟨rfl, rfl⟩) ⟨rfl, by decide⟩ rfl rfl dk_Spans12_14 ?_
  refine k_aload h dk_Spans12_17 1 rfl rfl ?_
  refine k_iload h dk_Spans12_18 0 rfl rfl ?_
  refine k_newI h (N := 12) tw_138 ⟨by decide, by decide, by decide⟩ ⟨by decide, by decide⟩ dk_Spans12_19 (fun q2 => ?_)
  refine k_fin h (j := 1) (t := 1) rfl rfl cf_Spans ⟨by decide, by decide, by decide⟩ tw_150 (fun z => ⟨rfl, rfl⟩) ⟨rfl, by decide⟩ rfl rfl dk_Spans12_21 ?_
  refine k_aload h dk_Spans12_24 1 rfl rfl ?_
  refine k_iload h dk_Spans12_25 0 rfl rfl ?_
  refine k_newI h (N := 12) tw_138 ⟨by decide, by decide, by decide⟩ ⟨by decide, by decide⟩ dk_Spans12_26 (fun q3 => ?_)
  refine k_fin h (j := 2) (t := 2) rfl rfl cf_Spans ⟨by decide, by decide, by decide⟩ tw_152 (fun z => ⟨rfl, rfl⟩) ⟨rfl, by decide⟩ rfl rfl dk_Spans12_28 ?_
  refine k_aload h dk_Spans12_31 1 rfl rfl ?_
  refine k_iload h dk_Spans12_32 0 rfl rfl ?_
  refine k_newI h (N := 12) tw_138 ⟨by decide, by decide, by decide⟩ ⟨by decide, by decide⟩ dk_Spans12_33 (fun q4 => ?_)
  refine k_fin h (j := 3) (t := 3) rfl rfl cf_Spans ⟨by decide, by decide, by decide⟩ tw_154 (fun z => ⟨rfl, rfl⟩) ⟨rfl, by decide⟩ rfl rfl dk_Spans12_35 ?_
  exact k_ret h _ rfl rfl dk_Spans12_38
def fl_Spans20 : List (Option Nat) := [some 1, some 2, some 3, some 4, none]
def ar_Spans20 : List (Nat × Bool) := [(20, false), (20, false), (20, false), (20, false)]
theorem dk_Spans20_0 : decode c_Spans_init 0 = .ok (.aload_n 0, 1) ∧ 0 + 1 = 1 := by decide +kernel
theorem dk_Spans20_1 : decode c_Spans_init 1 = .ok (.invokespecial 3, 3) ∧ 1 + 3 = 4 := by decide +kernel
theorem dk_Spans20_4 : decode c_Spans_init 4 = .ok (.iconst 0, 1) ∧ 4 + 1 = 5 := by decide +kernel
theorem dk_Spans20_5 : decode c_Spans_init 5 = .ok (.iload_n 1, 1) ∧ 5 + 1 = 6 := by decide +kernel
theorem dk_Spans20_6 : decode c_Spans_init 6 = .ok (.invokestatic 9, 3) ∧ 6 + 3 = 9 := by decide +kernel
theorem dk_Spans20_9 : decode c_Spans_init 9 = .ok (.istore_n 2, 1) ∧ 9 + 1 = 10 := by decide +kernel
theorem dk_Spans20_10 : decode c_Spans_init 10 = .ok (.aload_n 0, 1) ∧ 10 + 1 = 11 := by decide +kernel
theorem dk_Spans20_11 : decode c_Spans_init 11 = .ok (.iload_n 2, 1) ∧ 11 + 1 = 12 := by decide +kernel
theorem dk_Spans20_12 : decode c_Spans_init 12 = .ok (.newarray .int, 2) ∧ 12 + 2 = 14 := by decide +kernel
theorem dk_Spans20_14 : decode c_Spans_init 14 = .ok (.putfield 15, 3) ∧ 14 + 3 = 17 := by decide +kernel
theorem dk_Spans20_17 : decode c_Spans_init 17 = .ok (.aload_n 0, 1) ∧ 17 + 1 = 18 := by decide +kernel
theorem dk_Spans20_18 : decode c_Spans_init 18 = .ok (.iload_n 2, 1) ∧ 18 + 1 = 19 := by decide +kernel
theorem dk_Spans20_19 : decode c_Spans_init 19 = .ok (.newarray .int, 2) ∧ 19 + 2 = 21 := by decide +kernel
theorem dk_Spans20_21 : decode c_Spans_init 21 = .ok (.putfield 21, 3) ∧ 21 + 3 = 24 := by decide +kernel
theorem dk_Spans20_24 : decode c_Spans_init 24 = .ok (.aload_n 0, 1) ∧ 24 + 1 = 25 := by decide +kernel
theorem dk_Spans20_25 : decode c_Spans_init 25 = .ok (.iload_n 2, 1) ∧ 25 + 1 = 26 := by decide +kernel
theorem dk_Spans20_26 : decode c_Spans_init 26 = .ok (.newarray .int, 2) ∧ 26 + 2 = 28 := by decide +kernel
theorem dk_Spans20_28 : decode c_Spans_init 28 = .ok (.putfield 24, 3) ∧ 28 + 3 = 31 := by decide +kernel
theorem dk_Spans20_31 : decode c_Spans_init 31 = .ok (.aload_n 0, 1) ∧ 31 + 1 = 32 := by decide +kernel
theorem dk_Spans20_32 : decode c_Spans_init 32 = .ok (.iload_n 2, 1) ∧ 32 + 1 = 33 := by decide +kernel
theorem dk_Spans20_33 : decode c_Spans_init 33 = .ok (.newarray .int, 2) ∧ 33 + 2 = 35 := by decide +kernel
theorem dk_Spans20_35 : decode c_Spans_init 35 = .ok (.putfield 27, 3) ∧ 35 + 3 = 38 := by decide +kernel
theorem dk_Spans20_38 : decode c_Spans_init 38 = .ok (.return_, 1) := by decide +kernel
abbrev rm_Spans20 : Room := { frames := 1, cells := 4, slots := 80, locals := 20 }
set_option maxHeartbeats 4000000 in
set_option maxRecDepth 20000 in
theorem mk_Spans20 {l : Launch} {D : va_G} {cI cJ : ClassId} {h0 : Nat} : CtK l D cl_YC cI cJ y_Spans_init c_Spans_init 3 rm_Spans20 h0 [.int 20] (.inr (2, kZ fl_Spans20)) (fun a => kW cI cJ 2 fl_Spans20 ar_Spans20 kF0 a 4) 4 80 := by
  refine CtK.of pn_Spans rfl (Nat.le_of_ble_eq_true rfl) rfl (fun Γ h => ?_)
  have h : IsK l D cl_YC cI cJ R_Spans c_Spans_init 3 rm_Spans20 h0 (.inr (2, kZ fl_Spans20)) (fun a => kW cI cJ 2 fl_Spans20 ar_Spans20 kF0 a 4) 4 80 Γ := h
  have e0 : [(h0, (.inr (2, kZ fl_Spans20) : va_E))] = kW cI cJ 2 fl_Spans20 ar_Spans20 kF0 (fun _ => h0) 0 := by unfold kW; rw [kF_0 _ (by decide)]; rfl
  rw [e0]
  refine k_aload h dk_Spans20_0 0 rfl rfl ?_
  refine k_obj h ⟨tw_144, tw_101, tw_102⟩ ⟨by decide, by decide⟩ dk_Spans20_1 ?_
  refine k_iconst h dk_Spans20_4 (v := 0) (by decide) ?_
  refine k_iload h dk_Spans20_5 1 rfl rfl ?_
  refine k_max h ⟨tw_145, tw_146, tw_82, tw_147⟩ ⟨by decide, by decide, by decide, by decide⟩ dk_Spans20_6 ?_
  rw [show (if (0 : Int32) < 20 then (20 : Int32) else 0) = 20 by decide]
  refine k_istore h dk_Spans20_9 rfl (by decide) rfl ?_
  refine k_aload h dk_Spans20_10 1 rfl rfl ?_
  refine k_iload h dk_Spans20_11 0 rfl rfl ?_
  refine k_newI h (N := 20) tw_138 ⟨by decide, by decide, by decide⟩ ⟨by decide, by decide⟩ dk_Spans20_12 (fun q1 => ?_)
  refine k_fin h (j := 0) (t := 0) rfl rfl cf_Spans ⟨by decide, by decide, by decide⟩ tw_148 (fun z => ⟨rfl, rfl⟩) ⟨rfl, by decide⟩ rfl rfl dk_Spans20_14 ?_
  refine k_aload h dk_Spans20_17 1 rfl rfl ?_
  refine k_iload h dk_Spans20_18 0 rfl rfl ?_
  refine k_newI h (N := 20) tw_138 ⟨by decide, by decide, by decide⟩ ⟨by decide, by decide⟩ dk_Spans20_19 (fun q2 => ?_)
  refine k_fin h (j := 1) (t := 1) rfl rfl cf_Spans ⟨by decide, by decide, by decide⟩ tw_150 (fun z => ⟨rfl, rfl⟩) ⟨rfl, by decide⟩ rfl rfl dk_Spans20_21 ?_
  refine k_aload h dk_Spans20_24 1 rfl rfl ?_
  refine k_iload h dk_Spans20_25 0 rfl rfl ?_
  refine k_newI h (N := 20) tw_138 ⟨by decide, by decide, by decide⟩ ⟨by decide, by decide⟩ dk_Spans20_26 (fun q3 => ?_)
  refine k_fin h (j := 2) (t := 2) rfl rfl cf_Spans ⟨by decide, by decide, by decide⟩ tw_152 (fun z => ⟨rfl, rfl⟩) ⟨rfl, by decide⟩ rfl rfl dk_Spans20_28 ?_
  refine k_aload h dk_Spans20_31 1 rfl rfl ?_
  refine k_iload h dk_Spans20_32 0 rfl rfl ?_
  refine k_newI h (N := 20) tw_138 ⟨by decide, by decide, by decide⟩ ⟨by decide, by decide⟩ dk_Spans20_33 (fun q4 => ?_)
  refine k_fin h (j := 3) (t := 3) rfl rfl cf_Spans ⟨by decide, by decide, by decide⟩ tw_154 (fun z => ⟨rfl, rfl⟩) ⟨rfl, by decide⟩ rfl rfl dk_Spans20_35 ?_
  exact k_ret h _ rfl rfl dk_Spans20_38
def fl_Packs : List (Option Nat) := [some 1, some 2, some 3, none, some 4, some 5, some 6, none]
def ar_Packs : List (Nat × Bool) := [(12, false), (12, false), (12, false), (512, false), (512, false), (512, false)]
theorem dk_Packs_0 : decode c_Packs_init 0 = .ok (.aload_n 0, 1) ∧ 0 + 1 = 1 := by decide +kernel
theorem dk_Packs_1 : decode c_Packs_init 1 = .ok (.invokespecial 3, 3) ∧ 1 + 3 = 4 := by decide +kernel
theorem dk_Packs_4 : decode c_Packs_init 4 = .ok (.aload_n 0, 1) ∧ 4 + 1 = 5 := by decide +kernel
theorem dk_Packs_5 : decode c_Packs_init 5 = .ok (.bipush 12, 2) ∧ 5 + 2 = 7 := by decide +kernel
theorem dk_Packs_7 : decode c_Packs_init 7 = .ok (.newarray .int, 2) ∧ 7 + 2 = 9 := by decide +kernel
theorem dk_Packs_9 : decode c_Packs_init 9 = .ok (.putfield 9, 3) ∧ 9 + 3 = 12 := by decide +kernel
theorem dk_Packs_12 : decode c_Packs_init 12 = .ok (.aload_n 0, 1) ∧ 12 + 1 = 13 := by decide +kernel
theorem dk_Packs_13 : decode c_Packs_init 13 = .ok (.bipush 12, 2) ∧ 13 + 2 = 15 := by decide +kernel
theorem dk_Packs_15 : decode c_Packs_init 15 = .ok (.newarray .int, 2) ∧ 15 + 2 = 17 := by decide +kernel
theorem dk_Packs_17 : decode c_Packs_init 17 = .ok (.putfield 15, 3) ∧ 17 + 3 = 20 := by decide +kernel
theorem dk_Packs_20 : decode c_Packs_init 20 = .ok (.aload_n 0, 1) ∧ 20 + 1 = 21 := by decide +kernel
theorem dk_Packs_21 : decode c_Packs_init 21 = .ok (.bipush 12, 2) ∧ 21 + 2 = 23 := by decide +kernel
theorem dk_Packs_23 : decode c_Packs_init 23 = .ok (.newarray .int, 2) ∧ 23 + 2 = 25 := by decide +kernel
theorem dk_Packs_25 : decode c_Packs_init 25 = .ok (.putfield 18, 3) ∧ 25 + 3 = 28 := by decide +kernel
theorem dk_Packs_28 : decode c_Packs_init 28 = .ok (.aload_n 0, 1) ∧ 28 + 1 = 29 := by decide +kernel
theorem dk_Packs_29 : decode c_Packs_init 29 = .ok (.sipush 512, 3) ∧ 29 + 3 = 32 := by decide +kernel
theorem dk_Packs_32 : decode c_Packs_init 32 = .ok (.newarray .int, 2) ∧ 32 + 2 = 34 := by decide +kernel
theorem dk_Packs_34 : decode c_Packs_init 34 = .ok (.putfield 21, 3) ∧ 34 + 3 = 37 := by decide +kernel
theorem dk_Packs_37 : decode c_Packs_init 37 = .ok (.aload_n 0, 1) ∧ 37 + 1 = 38 := by decide +kernel
theorem dk_Packs_38 : decode c_Packs_init 38 = .ok (.sipush 512, 3) ∧ 38 + 3 = 41 := by decide +kernel
theorem dk_Packs_41 : decode c_Packs_init 41 = .ok (.newarray .int, 2) ∧ 41 + 2 = 43 := by decide +kernel
theorem dk_Packs_43 : decode c_Packs_init 43 = .ok (.putfield 24, 3) ∧ 43 + 3 = 46 := by decide +kernel
theorem dk_Packs_46 : decode c_Packs_init 46 = .ok (.aload_n 0, 1) ∧ 46 + 1 = 47 := by decide +kernel
theorem dk_Packs_47 : decode c_Packs_init 47 = .ok (.sipush 512, 3) ∧ 47 + 3 = 50 := by decide +kernel
theorem dk_Packs_50 : decode c_Packs_init 50 = .ok (.newarray .int, 2) ∧ 50 + 2 = 52 := by decide +kernel
theorem dk_Packs_52 : decode c_Packs_init 52 = .ok (.putfield 27, 3) ∧ 52 + 3 = 55 := by decide +kernel
theorem dk_Packs_55 : decode c_Packs_init 55 = .ok (.return_, 1) := by decide +kernel
abbrev rm_Packs : Room := { frames := 1, cells := 6, slots := 1572, locals := 20 }
set_option maxHeartbeats 4000000 in
set_option maxRecDepth 20000 in
theorem mk_Packs {l : Launch} {D : va_G} {cI cJ : ClassId} {h0 : Nat} : CtK l D cl_YC cI cJ y_Packs_init c_Packs_init 1 rm_Packs h0 [] (.inr (3, kZ fl_Packs)) (fun a => kW cI cJ 3 fl_Packs ar_Packs kF0 a 6) 6 1572 := by
  refine CtK.of pn_Packs rfl (Nat.le_of_ble_eq_true rfl) rfl (fun Γ h => ?_)
  have h : IsK l D cl_YC cI cJ R_Packs c_Packs_init 1 rm_Packs h0 (.inr (3, kZ fl_Packs)) (fun a => kW cI cJ 3 fl_Packs ar_Packs kF0 a 6) 6 1572 Γ := h
  have e0 : [(h0, (.inr (3, kZ fl_Packs) : va_E))] = kW cI cJ 3 fl_Packs ar_Packs kF0 (fun _ => h0) 0 := by unfold kW; rw [kF_0 _ (by decide)]; rfl
  rw [e0]
  refine k_aload h dk_Packs_0 0 rfl rfl ?_
  refine k_obj h ⟨tw_174, tw_101, tw_102⟩ ⟨by decide, by decide⟩ dk_Packs_1 ?_
  refine k_aload h dk_Packs_4 0 rfl rfl ?_
  refine k_bipush h dk_Packs_5 (v := 12) (by decide) ?_
  refine k_newI h (N := 12) tw_138 ⟨by decide, by decide, by decide⟩ ⟨by decide, by decide⟩ dk_Packs_7 (fun q1 => ?_)
  refine k_fin h (j := 0) (t := 0) rfl rfl cf_Packs ⟨by decide, by decide, by decide⟩ tw_175 (fun z => ⟨rfl, rfl⟩) ⟨rfl, by decide⟩ rfl rfl dk_Packs_9 ?_
  refine k_aload h dk_Packs_12 0 rfl rfl ?_
  refine k_bipush h dk_Packs_13 (v := 12) (by decide) ?_
  refine k_newI h (N := 12) tw_138 ⟨by decide, by decide, by decide⟩ ⟨by decide, by decide⟩ dk_Packs_15 (fun q2 => ?_)
  refine k_fin h (j := 1) (t := 1) rfl rfl cf_Packs ⟨by decide, by decide, by decide⟩ tw_177 (fun z => ⟨rfl, rfl⟩) ⟨rfl, by decide⟩ rfl rfl dk_Packs_17 ?_
  refine k_aload h dk_Packs_20 0 rfl rfl ?_
  refine k_bipush h dk_Packs_21 (v := 12) (by decide) ?_
  refine k_newI h (N := 12) tw_138 ⟨by decide, by decide, by decide⟩ ⟨by decide, by decide⟩ dk_Packs_23 (fun q3 => ?_)
  refine k_fin h (j := 2) (t := 2) rfl rfl cf_Packs ⟨by decide, by decide, by decide⟩ tw_180 (fun z => ⟨rfl, rfl⟩) ⟨rfl, by decide⟩ rfl rfl dk_Packs_25 ?_
  refine k_aload h dk_Packs_28 0 rfl rfl ?_
  refine k_sipush h dk_Packs_29 (v := 512) (by decide) ?_
  refine k_newI h (N := 512) tw_138 ⟨by decide, by decide, by decide⟩ ⟨by decide, by decide⟩ dk_Packs_32 (fun q4 => ?_)
  refine k_fin h (j := 4) (t := 3) rfl rfl cf_Packs ⟨by decide, by decide, by decide⟩ tw_184 (fun z => ⟨rfl, rfl⟩) ⟨rfl, by decide⟩ rfl rfl dk_Packs_34 ?_
  refine k_aload h dk_Packs_37 0 rfl rfl ?_
  refine k_sipush h dk_Packs_38 (v := 512) (by decide) ?_
  refine k_newI h (N := 512) tw_138 ⟨by decide, by decide, by decide⟩ ⟨by decide, by decide⟩ dk_Packs_41 (fun q5 => ?_)
  refine k_fin h (j := 5) (t := 4) rfl rfl cf_Packs ⟨by decide, by decide, by decide⟩ tw_185 (fun z => ⟨rfl, rfl⟩) ⟨rfl, by decide⟩ rfl rfl dk_Packs_43 ?_
  refine k_aload h dk_Packs_46 0 rfl rfl ?_
  refine k_sipush h dk_Packs_47 (v := 512) (by decide) ?_
  refine k_newI h (N := 512) tw_138 ⟨by decide, by decide, by decide⟩ ⟨by decide, by decide⟩ dk_Packs_50 (fun q6 => ?_)
  refine k_fin h (j := 6) (t := 5) rfl rfl cf_Packs ⟨by decide, by decide, by decide⟩ tw_186 (fun z => ⟨rfl, rfl⟩) ⟨rfl, by decide⟩ rfl rfl dk_Packs_52 ?_
  exact k_ret h _ rfl rfl dk_Packs_55
def fl_Ledger : List (Option Nat) := [some 1, some 2, some 3, some 4, some 5, some 6, none]
def ar_Ledger : List (Nat × Bool) := [(60, false), (60, false), (60, false), (60, false), (60, false), (60, false)]
theorem dk_Ledger_0 : decode c_Ledger_init 0 = .ok (.aload_n 0, 1) ∧ 0 + 1 = 1 := by decide +kernel
theorem dk_Ledger_1 : decode c_Ledger_init 1 = .ok (.invokespecial 3, 3) ∧ 1 + 3 = 4 := by decide +kernel
theorem dk_Ledger_4 : decode c_Ledger_init 4 = .ok (.aload_n 0, 1) ∧ 4 + 1 = 5 := by decide +kernel
theorem dk_Ledger_5 : decode c_Ledger_init 5 = .ok (.bipush 60, 2) ∧ 5 + 2 = 7 := by decide +kernel
theorem dk_Ledger_7 : decode c_Ledger_init 7 = .ok (.newarray .int, 2) ∧ 7 + 2 = 9 := by decide +kernel
theorem dk_Ledger_9 : decode c_Ledger_init 9 = .ok (.putfield 11, 3) ∧ 9 + 3 = 12 := by decide +kernel
theorem dk_Ledger_12 : decode c_Ledger_init 12 = .ok (.aload_n 0, 1) ∧ 12 + 1 = 13 := by decide +kernel
theorem dk_Ledger_13 : decode c_Ledger_init 13 = .ok (.bipush 60, 2) ∧ 13 + 2 = 15 := by decide +kernel
theorem dk_Ledger_15 : decode c_Ledger_init 15 = .ok (.newarray .int, 2) ∧ 15 + 2 = 17 := by decide +kernel
theorem dk_Ledger_17 : decode c_Ledger_init 17 = .ok (.putfield 15, 3) ∧ 17 + 3 = 20 := by decide +kernel
theorem dk_Ledger_20 : decode c_Ledger_init 20 = .ok (.aload_n 0, 1) ∧ 20 + 1 = 21 := by decide +kernel
theorem dk_Ledger_21 : decode c_Ledger_init 21 = .ok (.bipush 60, 2) ∧ 21 + 2 = 23 := by decide +kernel
theorem dk_Ledger_23 : decode c_Ledger_init 23 = .ok (.newarray .int, 2) ∧ 23 + 2 = 25 := by decide +kernel
theorem dk_Ledger_25 : decode c_Ledger_init 25 = .ok (.putfield 18, 3) ∧ 25 + 3 = 28 := by decide +kernel
theorem dk_Ledger_28 : decode c_Ledger_init 28 = .ok (.aload_n 0, 1) ∧ 28 + 1 = 29 := by decide +kernel
theorem dk_Ledger_29 : decode c_Ledger_init 29 = .ok (.bipush 60, 2) ∧ 29 + 2 = 31 := by decide +kernel
theorem dk_Ledger_31 : decode c_Ledger_init 31 = .ok (.newarray .int, 2) ∧ 31 + 2 = 33 := by decide +kernel
theorem dk_Ledger_33 : decode c_Ledger_init 33 = .ok (.putfield 21, 3) ∧ 33 + 3 = 36 := by decide +kernel
theorem dk_Ledger_36 : decode c_Ledger_init 36 = .ok (.aload_n 0, 1) ∧ 36 + 1 = 37 := by decide +kernel
theorem dk_Ledger_37 : decode c_Ledger_init 37 = .ok (.bipush 60, 2) ∧ 37 + 2 = 39 := by decide +kernel
theorem dk_Ledger_39 : decode c_Ledger_init 39 = .ok (.newarray .int, 2) ∧ 39 + 2 = 41 := by decide +kernel
theorem dk_Ledger_41 : decode c_Ledger_init 41 = .ok (.putfield 24, 3) ∧ 41 + 3 = 44 := by decide +kernel
theorem dk_Ledger_44 : decode c_Ledger_init 44 = .ok (.aload_n 0, 1) ∧ 44 + 1 = 45 := by decide +kernel
theorem dk_Ledger_45 : decode c_Ledger_init 45 = .ok (.bipush 60, 2) ∧ 45 + 2 = 47 := by decide +kernel
theorem dk_Ledger_47 : decode c_Ledger_init 47 = .ok (.newarray .int, 2) ∧ 47 + 2 = 49 := by decide +kernel
theorem dk_Ledger_49 : decode c_Ledger_init 49 = .ok (.putfield 27, 3) ∧ 49 + 3 = 52 := by decide +kernel
theorem dk_Ledger_52 : decode c_Ledger_init 52 = .ok (.return_, 1) := by decide +kernel
abbrev rm_Ledger : Room := { frames := 1, cells := 6, slots := 360, locals := 20 }
set_option maxHeartbeats 4000000 in
set_option maxRecDepth 20000 in
theorem mk_Ledger {l : Launch} {D : va_G} {cI cJ : ClassId} {h0 : Nat} : CtK l D cl_YC cI cJ y_Ledger_init c_Ledger_init 1 rm_Ledger h0 [] (.inr (4, kZ fl_Ledger)) (fun a => kW cI cJ 4 fl_Ledger ar_Ledger kF0 a 6) 6 360 := by
  refine CtK.of pn_Ledger rfl (Nat.le_of_ble_eq_true rfl) rfl (fun Γ h => ?_)
  have h : IsK l D cl_YC cI cJ R_Ledger c_Ledger_init 1 rm_Ledger h0 (.inr (4, kZ fl_Ledger)) (fun a => kW cI cJ 4 fl_Ledger ar_Ledger kF0 a 6) 6 360 Γ := h
  have e0 : [(h0, (.inr (4, kZ fl_Ledger) : va_E))] = kW cI cJ 4 fl_Ledger ar_Ledger kF0 (fun _ => h0) 0 := by unfold kW; rw [kF_0 _ (by decide)]; rfl
  rw [e0]
  refine k_aload h dk_Ledger_0 0 rfl rfl ?_
  refine k_obj h ⟨tw_210, tw_101, tw_102⟩ ⟨by decide, by decide⟩ dk_Ledger_1 ?_
  refine k_aload h dk_Ledger_4 0 rfl rfl ?_
  refine k_bipush h dk_Ledger_5 (v := 60) (by decide) ?_
  refine k_newI h (N := 60) tw_138 ⟨by decide, by decide, by decide⟩ ⟨by decide, by decide⟩ dk_Ledger_7 (fun q1 => ?_)
  refine k_fin h (j := 0) (t := 0) rfl rfl cf_Ledger ⟨by decide, by decide, by decide⟩ tw_211 (fun z => ⟨rfl, rfl⟩) ⟨rfl, by decide⟩ rfl rfl dk_Ledger_9 ?_
  refine k_aload h dk_Ledger_12 0 rfl rfl ?_
  refine k_bipush h dk_Ledger_13 (v := 60) (by decide) ?_
  refine k_newI h (N := 60) tw_138 ⟨by decide, by decide, by decide⟩ ⟨by decide, by decide⟩ dk_Ledger_15 (fun q2 => ?_)
  refine k_fin h (j := 1) (t := 1) rfl rfl cf_Ledger ⟨by decide, by decide, by decide⟩ tw_214 (fun z => ⟨rfl, rfl⟩) ⟨rfl, by decide⟩ rfl rfl dk_Ledger_17 ?_
  refine k_aload h dk_Ledger_20 0 rfl rfl ?_
  refine k_bipush h dk_Ledger_21 (v := 60) (by decide) ?_
  refine k_newI h (N := 60) tw_138 ⟨by decide, by decide, by decide⟩ ⟨by decide, by decide⟩ dk_Ledger_23 (fun q3 => ?_)
  refine k_fin h (j := 2) (t := 2) rfl rfl cf_Ledger ⟨by decide, by decide, by decide⟩ tw_216 (fun z => ⟨rfl, rfl⟩) ⟨rfl, by decide⟩ rfl rfl dk_Ledger_25 ?_
  refine k_aload h dk_Ledger_28 0 rfl rfl ?_
  refine k_bipush h dk_Ledger_29 (v := 60) (by decide) ?_
  refine k_newI h (N := 60) tw_138 ⟨by decide, by decide, by decide⟩ ⟨by decide, by decide⟩ dk_Ledger_31 (fun q4 => ?_)
  refine k_fin h (j := 3) (t := 3) rfl rfl cf_Ledger ⟨by decide, by decide, by decide⟩ tw_218 (fun z => ⟨rfl, rfl⟩) ⟨rfl, by decide⟩ rfl rfl dk_Ledger_33 ?_
  refine k_aload h dk_Ledger_36 0 rfl rfl ?_
  refine k_bipush h dk_Ledger_37 (v := 60) (by decide) ?_
  refine k_newI h (N := 60) tw_138 ⟨by decide, by decide, by decide⟩ ⟨by decide, by decide⟩ dk_Ledger_39 (fun q5 => ?_)
  refine k_fin h (j := 4) (t := 4) rfl rfl cf_Ledger ⟨by decide, by decide, by decide⟩ tw_220 (fun z => ⟨rfl, rfl⟩) ⟨rfl, by decide⟩ rfl rfl dk_Ledger_41 ?_
  refine k_aload h dk_Ledger_44 0 rfl rfl ?_
  refine k_bipush h dk_Ledger_45 (v := 60) (by decide) ?_
  refine k_newI h (N := 60) tw_138 ⟨by decide, by decide, by decide⟩ ⟨by decide, by decide⟩ dk_Ledger_47 (fun q6 => ?_)
  refine k_fin h (j := 5) (t := 5) rfl rfl cf_Ledger ⟨by decide, by decide, by decide⟩ tw_222 (fun z => ⟨rfl, rfl⟩) ⟨rfl, by decide⟩ rfl rfl dk_Ledger_49 ?_
  exact k_ret h _ rfl rfl dk_Ledger_52
def fl_News : List (Option Nat) := [some 1, some 2, some 3, some 4, none]
def ar_News : List (Nat × Bool) := [(420, false), (7, true), (7, true), (7, false)]
theorem dk_News_0 : decode c_News_init 0 = .ok (.aload_n 0, 1) ∧ 0 + 1 = 1 := by decide +kernel
theorem dk_News_1 : decode c_News_init 1 = .ok (.invokespecial 3, 3) ∧ 1 + 3 = 4 := by decide +kernel
theorem dk_News_4 : decode c_News_init 4 = .ok (.aload_n 0, 1) ∧ 4 + 1 = 5 := by decide +kernel
theorem dk_News_5 : decode c_News_init 5 = .ok (.sipush 420, 3) ∧ 5 + 3 = 8 := by decide +kernel
theorem dk_News_8 : decode c_News_init 8 = .ok (.newarray .int, 2) ∧ 8 + 2 = 10 := by decide +kernel
theorem dk_News_10 : decode c_News_init 10 = .ok (.putfield 13, 3) ∧ 10 + 3 = 13 := by decide +kernel
theorem dk_News_13 : decode c_News_init 13 = .ok (.aload_n 0, 1) ∧ 13 + 1 = 14 := by decide +kernel
theorem dk_News_14 : decode c_News_init 14 = .ok (.bipush 7, 2) ∧ 14 + 2 = 16 := by decide +kernel
theorem dk_News_16 : decode c_News_init 16 = .ok (.newarray .long, 2) ∧ 16 + 2 = 18 := by decide +kernel
theorem dk_News_18 : decode c_News_init 18 = .ok (.putfield 17, 3) ∧ 18 + 3 = 21 := by decide +kernel
theorem dk_News_21 : decode c_News_init 21 = .ok (.aload_n 0, 1) ∧ 21 + 1 = 22 := by decide +kernel
theorem dk_News_22 : decode c_News_init 22 = .ok (.bipush 7, 2) ∧ 22 + 2 = 24 := by decide +kernel
theorem dk_News_24 : decode c_News_init 24 = .ok (.newarray .long, 2) ∧ 24 + 2 = 26 := by decide +kernel
theorem dk_News_26 : decode c_News_init 26 = .ok (.putfield 21, 3) ∧ 26 + 3 = 29 := by decide +kernel
theorem dk_News_29 : decode c_News_init 29 = .ok (.aload_n 0, 1) ∧ 29 + 1 = 30 := by decide +kernel
theorem dk_News_30 : decode c_News_init 30 = .ok (.bipush 7, 2) ∧ 30 + 2 = 32 := by decide +kernel
theorem dk_News_32 : decode c_News_init 32 = .ok (.newarray .int, 2) ∧ 32 + 2 = 34 := by decide +kernel
theorem dk_News_34 : decode c_News_init 34 = .ok (.putfield 24, 3) ∧ 34 + 3 = 37 := by decide +kernel
theorem dk_News_37 : decode c_News_init 37 = .ok (.return_, 1) := by decide +kernel
abbrev rm_News : Room := { frames := 1, cells := 4, slots := 441, locals := 20 }
set_option maxHeartbeats 4000000 in
set_option maxRecDepth 20000 in
theorem mk_News {l : Launch} {D : va_G} {cI cJ : ClassId} {h0 : Nat} : CtK l D cl_YC cI cJ y_News_init c_News_init 1 rm_News h0 [] (.inr (5, kZ fl_News)) (fun a => kW cI cJ 5 fl_News ar_News kF0 a 4) 4 441 := by
  refine CtK.of pn_News rfl (Nat.le_of_ble_eq_true rfl) rfl (fun Γ h => ?_)
  have h : IsK l D cl_YC cI cJ R_News c_News_init 1 rm_News h0 (.inr (5, kZ fl_News)) (fun a => kW cI cJ 5 fl_News ar_News kF0 a 4) 4 441 Γ := h
  have e0 : [(h0, (.inr (5, kZ fl_News) : va_E))] = kW cI cJ 5 fl_News ar_News kF0 (fun _ => h0) 0 := by unfold kW; rw [kF_0 _ (by decide)]; rfl
  rw [e0]
  refine k_aload h dk_News_0 0 rfl rfl ?_
  refine k_obj h ⟨tw_248, tw_101, tw_102⟩ ⟨by decide, by decide⟩ dk_News_1 ?_
  refine k_aload h dk_News_4 0 rfl rfl ?_
  refine k_sipush h dk_News_5 (v := 420) (by decide) ?_
  refine k_newI h (N := 420) tw_138 ⟨by decide, by decide, by decide⟩ ⟨by decide, by decide⟩ dk_News_8 (fun q1 => ?_)
  refine k_fin h (j := 0) (t := 0) rfl rfl cf_News ⟨by decide, by decide, by decide⟩ tw_249 (fun z => ⟨rfl, rfl⟩) ⟨rfl, by decide⟩ rfl rfl dk_News_10 ?_
  refine k_aload h dk_News_13 0 rfl rfl ?_
  refine k_bipush h dk_News_14 (v := 7) (by decide) ?_
  refine k_newJ h (N := 7) tw_266 ⟨by decide, by decide, by decide⟩ ⟨by decide, by decide⟩ dk_News_16 (fun q2 => ?_)
  refine k_fin h (j := 1) (t := 1) rfl rfl cf_News ⟨by decide, by decide, by decide⟩ tw_250 (fun z => ⟨rfl, rfl⟩) ⟨rfl, by decide⟩ rfl rfl dk_News_18 ?_
  refine k_aload h dk_News_21 0 rfl rfl ?_
  refine k_bipush h dk_News_22 (v := 7) (by decide) ?_
  refine k_newJ h (N := 7) tw_266 ⟨by decide, by decide, by decide⟩ ⟨by decide, by decide⟩ dk_News_24 (fun q3 => ?_)
  refine k_fin h (j := 2) (t := 2) rfl rfl cf_News ⟨by decide, by decide, by decide⟩ tw_251 (fun z => ⟨rfl, rfl⟩) ⟨rfl, by decide⟩ rfl rfl dk_News_26 ?_
  refine k_aload h dk_News_29 0 rfl rfl ?_
  refine k_bipush h dk_News_30 (v := 7) (by decide) ?_
  refine k_newI h (N := 7) tw_138 ⟨by decide, by decide, by decide⟩ ⟨by decide, by decide⟩ dk_News_32 (fun q4 => ?_)
  refine k_fin h (j := 3) (t := 3) rfl rfl cf_News ⟨by decide, by decide, by decide⟩ tw_252 (fun z => ⟨rfl, rfl⟩) ⟨rfl, by decide⟩ rfl rfl dk_News_34 ?_
  exact k_ret h _ rfl rfl dk_News_37
def fl_Texts : List (Option Nat) := [some 1, some 2, some 3, some 4, some 5, some 6, none, some 7, some 8, none]
def ar_Texts : List (Nat × Bool) := [(10, false), (10, false), (10, false), (10, false), (60, false), (60, false), (6, false), (6, false)]
theorem dk_Texts_0 : decode c_Texts_init 0 = .ok (.aload_n 0, 1) ∧ 0 + 1 = 1 := by decide +kernel
theorem dk_Texts_1 : decode c_Texts_init 1 = .ok (.invokespecial 3, 3) ∧ 1 + 3 = 4 := by decide +kernel
theorem dk_Texts_4 : decode c_Texts_init 4 = .ok (.aload_n 0, 1) ∧ 4 + 1 = 5 := by decide +kernel
theorem dk_Texts_5 : decode c_Texts_init 5 = .ok (.bipush 10, 2) ∧ 5 + 2 = 7 := by decide +kernel
theorem dk_Texts_7 : decode c_Texts_init 7 = .ok (.newarray .int, 2) ∧ 7 + 2 = 9 := by decide +kernel
theorem dk_Texts_9 : decode c_Texts_init 9 = .ok (.putfield 9, 3) ∧ 9 + 3 = 12 := by decide +kernel
theorem dk_Texts_12 : decode c_Texts_init 12 = .ok (.aload_n 0, 1) ∧ 12 + 1 = 13 := by decide +kernel
theorem dk_Texts_13 : decode c_Texts_init 13 = .ok (.bipush 10, 2) ∧ 13 + 2 = 15 := by decide +kernel
theorem dk_Texts_15 : decode c_Texts_init 15 = .ok (.newarray .int, 2) ∧ 15 + 2 = 17 := by decide +kernel
theorem dk_Texts_17 : decode c_Texts_init 17 = .ok (.putfield 15, 3) ∧ 17 + 3 = 20 := by decide +kernel
theorem dk_Texts_20 : decode c_Texts_init 20 = .ok (.aload_n 0, 1) ∧ 20 + 1 = 21 := by decide +kernel
theorem dk_Texts_21 : decode c_Texts_init 21 = .ok (.bipush 10, 2) ∧ 21 + 2 = 23 := by decide +kernel
theorem dk_Texts_23 : decode c_Texts_init 23 = .ok (.newarray .int, 2) ∧ 23 + 2 = 25 := by decide +kernel
theorem dk_Texts_25 : decode c_Texts_init 25 = .ok (.putfield 18, 3) ∧ 25 + 3 = 28 := by decide +kernel
theorem dk_Texts_28 : decode c_Texts_init 28 = .ok (.aload_n 0, 1) ∧ 28 + 1 = 29 := by decide +kernel
theorem dk_Texts_29 : decode c_Texts_init 29 = .ok (.bipush 10, 2) ∧ 29 + 2 = 31 := by decide +kernel
theorem dk_Texts_31 : decode c_Texts_init 31 = .ok (.newarray .int, 2) ∧ 31 + 2 = 33 := by decide +kernel
theorem dk_Texts_33 : decode c_Texts_init 33 = .ok (.putfield 21, 3) ∧ 33 + 3 = 36 := by decide +kernel
theorem dk_Texts_36 : decode c_Texts_init 36 = .ok (.aload_n 0, 1) ∧ 36 + 1 = 37 := by decide +kernel
theorem dk_Texts_37 : decode c_Texts_init 37 = .ok (.bipush 60, 2) ∧ 37 + 2 = 39 := by decide +kernel
theorem dk_Texts_39 : decode c_Texts_init 39 = .ok (.newarray .int, 2) ∧ 39 + 2 = 41 := by decide +kernel
theorem dk_Texts_41 : decode c_Texts_init 41 = .ok (.putfield 24, 3) ∧ 41 + 3 = 44 := by decide +kernel
theorem dk_Texts_44 : decode c_Texts_init 44 = .ok (.aload_n 0, 1) ∧ 44 + 1 = 45 := by decide +kernel
theorem dk_Texts_45 : decode c_Texts_init 45 = .ok (.bipush 60, 2) ∧ 45 + 2 = 47 := by decide +kernel
theorem dk_Texts_47 : decode c_Texts_init 47 = .ok (.newarray .int, 2) ∧ 47 + 2 = 49 := by decide +kernel
theorem dk_Texts_49 : decode c_Texts_init 49 = .ok (.putfield 27, 3) ∧ 49 + 3 = 52 := by decide +kernel
theorem dk_Texts_52 : decode c_Texts_init 52 = .ok (.aload_n 0, 1) ∧ 52 + 1 = 53 := by decide +kernel
theorem dk_Texts_53 : decode c_Texts_init 53 = .ok (.bipush 6, 2) ∧ 53 + 2 = 55 := by decide +kernel
theorem dk_Texts_55 : decode c_Texts_init 55 = .ok (.newarray .int, 2) ∧ 55 + 2 = 57 := by decide +kernel
theorem dk_Texts_57 : decode c_Texts_init 57 = .ok (.putfield 30, 3) ∧ 57 + 3 = 60 := by decide +kernel
theorem dk_Texts_60 : decode c_Texts_init 60 = .ok (.aload_n 0, 1) ∧ 60 + 1 = 61 := by decide +kernel
theorem dk_Texts_61 : decode c_Texts_init 61 = .ok (.bipush 6, 2) ∧ 61 + 2 = 63 := by decide +kernel
theorem dk_Texts_63 : decode c_Texts_init 63 = .ok (.newarray .int, 2) ∧ 63 + 2 = 65 := by decide +kernel
theorem dk_Texts_65 : decode c_Texts_init 65 = .ok (.putfield 33, 3) ∧ 65 + 3 = 68 := by decide +kernel
theorem dk_Texts_68 : decode c_Texts_init 68 = .ok (.return_, 1) := by decide +kernel
abbrev rm_Texts : Room := { frames := 1, cells := 8, slots := 172, locals := 20 }
set_option maxHeartbeats 4000000 in
set_option maxRecDepth 20000 in
theorem mk_Texts {l : Launch} {D : va_G} {cI cJ : ClassId} {h0 : Nat} : CtK l D cl_YC cI cJ y_Texts_init c_Texts_init 1 rm_Texts h0 [] (.inr (6, kZ fl_Texts)) (fun a => kW cI cJ 6 fl_Texts ar_Texts kF0 a 8) 8 172 := by
  refine CtK.of pn_Texts rfl (Nat.le_of_ble_eq_true rfl) rfl (fun Γ h => ?_)
  have h : IsK l D cl_YC cI cJ R_Texts c_Texts_init 1 rm_Texts h0 (.inr (6, kZ fl_Texts)) (fun a => kW cI cJ 6 fl_Texts ar_Texts kF0 a 8) 8 172 Γ := h
  have e0 : [(h0, (.inr (6, kZ fl_Texts) : va_E))] = kW cI cJ 6 fl_Texts ar_Texts kF0 (fun _ => h0) 0 := by unfold kW; rw [kF_0 _ (by decide)]; rfl
  rw [e0]
  refine k_aload h dk_Texts_0 0 rfl rfl ?_
  refine k_obj h ⟨tw_272, tw_101, tw_102⟩ ⟨by decide, by decide⟩ dk_Texts_1 ?_
  refine k_aload h dk_Texts_4 0 rfl rfl ?_
  refine k_bipush h dk_Texts_5 (v := 10) (by decide) ?_
  refine k_newI h (N := 10) tw_138 ⟨by decide, by decide, by decide⟩ ⟨by decide, by decide⟩ dk_Texts_7 (fun q1 => ?_)
  refine k_fin h (j := 0) (t := 0) rfl rfl cf_Texts ⟨by decide, by decide, by decide⟩ tw_273 (fun z => ⟨rfl, rfl⟩) ⟨rfl, by decide⟩ rfl rfl dk_Texts_9 ?_
  refine k_aload h dk_Texts_12 0 rfl rfl ?_
  refine k_bipush h dk_Texts_13 (v := 10) (by decide) ?_
  refine k_newI h (N := 10) tw_138 ⟨by decide, by decide, by decide⟩ ⟨by decide, by decide⟩ dk_Texts_15 (fun q2 => ?_)
  refine k_fin h (j := 1) (t := 1) rfl rfl cf_Texts ⟨by decide, by decide, by decide⟩ tw_274 (fun z => ⟨rfl, rfl⟩) ⟨rfl, by decide⟩ rfl rfl dk_Texts_17 ?_
  refine k_aload h dk_Texts_20 0 rfl rfl ?_
  refine k_bipush h dk_Texts_21 (v := 10) (by decide) ?_
  refine k_newI h (N := 10) tw_138 ⟨by decide, by decide, by decide⟩ ⟨by decide, by decide⟩ dk_Texts_23 (fun q3 => ?_)
  refine k_fin h (j := 2) (t := 2) rfl rfl cf_Texts ⟨by decide, by decide, by decide⟩ tw_275 (fun z => ⟨rfl, rfl⟩) ⟨rfl, by decide⟩ rfl rfl dk_Texts_25 ?_
  refine k_aload h dk_Texts_28 0 rfl rfl ?_
  refine k_bipush h dk_Texts_29 (v := 10) (by decide) ?_
  refine k_newI h (N := 10) tw_138 ⟨by decide, by decide, by decide⟩ ⟨by decide, by decide⟩ dk_Texts_31 (fun q4 => ?_)
  refine k_fin h (j := 3) (t := 3) rfl rfl cf_Texts ⟨by decide, by decide, by decide⟩ tw_276 (fun z => ⟨rfl, rfl⟩) ⟨rfl, by decide⟩ rfl rfl dk_Texts_33 ?_
  refine k_aload h dk_Texts_36 0 rfl rfl ?_
  refine k_bipush h dk_Texts_37 (v := 60) (by decide) ?_
  refine k_newI h (N := 60) tw_138 ⟨by decide, by decide, by decide⟩ ⟨by decide, by decide⟩ dk_Texts_39 (fun q5 => ?_)
  refine k_fin h (j := 4) (t := 4) rfl rfl cf_Texts ⟨by decide, by decide, by decide⟩ tw_277 (fun z => ⟨rfl, rfl⟩) ⟨rfl, by decide⟩ rfl rfl dk_Texts_41 ?_
  refine k_aload h dk_Texts_44 0 rfl rfl ?_
  refine k_bipush h dk_Texts_45 (v := 60) (by decide) ?_
  refine k_newI h (N := 60) tw_138 ⟨by decide, by decide, by decide⟩ ⟨by decide, by decide⟩ dk_Texts_47 (fun q6 => ?_)
  refine k_fin h (j := 5) (t := 5) rfl rfl cf_Texts ⟨by decide, by decide, by decide⟩ tw_278 (fun z => ⟨rfl, rfl⟩) ⟨rfl, by decide⟩ rfl rfl dk_Texts_49 ?_
  refine k_aload h dk_Texts_52 0 rfl rfl ?_
  refine k_bipush h dk_Texts_53 (v := 6) (by decide) ?_
  refine k_newI h (N := 6) tw_138 ⟨by decide, by decide, by decide⟩ ⟨by decide, by decide⟩ dk_Texts_55 (fun q7 => ?_)
  refine k_fin h (j := 7) (t := 6) rfl rfl cf_Texts ⟨by decide, by decide, by decide⟩ tw_281 (fun z => ⟨rfl, rfl⟩) ⟨rfl, by decide⟩ rfl rfl dk_Texts_57 ?_
  refine k_aload h dk_Texts_60 0 rfl rfl ?_
  refine k_bipush h dk_Texts_61 (v := 6) (by decide) ?_
  refine k_newI h (N := 6) tw_138 ⟨by decide, by decide, by decide⟩ ⟨by decide, by decide⟩ dk_Texts_63 (fun q8 => ?_)
  refine k_fin h (j := 8) (t := 7) rfl rfl cf_Texts ⟨by decide, by decide, by decide⟩ tw_282 (fun z => ⟨rfl, rfl⟩) ⟨rfl, by decide⟩ rfl rfl dk_Texts_65 ?_
  exact k_ret h _ rfl rfl dk_Texts_68
def fl_Debts : List (Option Nat) := [some 1, some 2, some 3, some 4, some 5, some 6, some 7, none]
def ar_Debts : List (Nat × Bool) := [(20, false), (20, false), (20, false), (20, false), (20, false), (20, false), (20, false)]
theorem dk_Debts_0 : decode c_Debts_init 0 = .ok (.aload_n 0, 1) ∧ 0 + 1 = 1 := by decide +kernel
theorem dk_Debts_1 : decode c_Debts_init 1 = .ok (.invokespecial 3, 3) ∧ 1 + 3 = 4 := by decide +kernel
theorem dk_Debts_4 : decode c_Debts_init 4 = .ok (.aload_n 0, 1) ∧ 4 + 1 = 5 := by decide +kernel
theorem dk_Debts_5 : decode c_Debts_init 5 = .ok (.bipush 20, 2) ∧ 5 + 2 = 7 := by decide +kernel
theorem dk_Debts_7 : decode c_Debts_init 7 = .ok (.newarray .int, 2) ∧ 7 + 2 = 9 := by decide +kernel
theorem dk_Debts_9 : decode c_Debts_init 9 = .ok (.putfield 9, 3) ∧ 9 + 3 = 12 := by decide +kernel
theorem dk_Debts_12 : decode c_Debts_init 12 = .ok (.aload_n 0, 1) ∧ 12 + 1 = 13 := by decide +kernel
theorem dk_Debts_13 : decode c_Debts_init 13 = .ok (.bipush 20, 2) ∧ 13 + 2 = 15 := by decide +kernel
theorem dk_Debts_15 : decode c_Debts_init 15 = .ok (.newarray .int, 2) ∧ 15 + 2 = 17 := by decide +kernel
theorem dk_Debts_17 : decode c_Debts_init 17 = .ok (.putfield 15, 3) ∧ 17 + 3 = 20 := by decide +kernel
theorem dk_Debts_20 : decode c_Debts_init 20 = .ok (.aload_n 0, 1) ∧ 20 + 1 = 21 := by decide +kernel
theorem dk_Debts_21 : decode c_Debts_init 21 = .ok (.bipush 20, 2) ∧ 21 + 2 = 23 := by decide +kernel
theorem dk_Debts_23 : decode c_Debts_init 23 = .ok (.newarray .int, 2) ∧ 23 + 2 = 25 := by decide +kernel
theorem dk_Debts_25 : decode c_Debts_init 25 = .ok (.putfield 18, 3) ∧ 25 + 3 = 28 := by decide +kernel
theorem dk_Debts_28 : decode c_Debts_init 28 = .ok (.aload_n 0, 1) ∧ 28 + 1 = 29 := by decide +kernel
theorem dk_Debts_29 : decode c_Debts_init 29 = .ok (.bipush 20, 2) ∧ 29 + 2 = 31 := by decide +kernel
theorem dk_Debts_31 : decode c_Debts_init 31 = .ok (.newarray .int, 2) ∧ 31 + 2 = 33 := by decide +kernel
theorem dk_Debts_33 : decode c_Debts_init 33 = .ok (.putfield 21, 3) ∧ 33 + 3 = 36 := by decide +kernel
theorem dk_Debts_36 : decode c_Debts_init 36 = .ok (.aload_n 0, 1) ∧ 36 + 1 = 37 := by decide +kernel
theorem dk_Debts_37 : decode c_Debts_init 37 = .ok (.bipush 20, 2) ∧ 37 + 2 = 39 := by decide +kernel
theorem dk_Debts_39 : decode c_Debts_init 39 = .ok (.newarray .int, 2) ∧ 39 + 2 = 41 := by decide +kernel
theorem dk_Debts_41 : decode c_Debts_init 41 = .ok (.putfield 24, 3) ∧ 41 + 3 = 44 := by decide +kernel
theorem dk_Debts_44 : decode c_Debts_init 44 = .ok (.aload_n 0, 1) ∧ 44 + 1 = 45 := by decide +kernel
theorem dk_Debts_45 : decode c_Debts_init 45 = .ok (.bipush 20, 2) ∧ 45 + 2 = 47 := by decide +kernel
theorem dk_Debts_47 : decode c_Debts_init 47 = .ok (.newarray .int, 2) ∧ 47 + 2 = 49 := by decide +kernel
theorem dk_Debts_49 : decode c_Debts_init 49 = .ok (.putfield 27, 3) ∧ 49 + 3 = 52 := by decide +kernel
theorem dk_Debts_52 : decode c_Debts_init 52 = .ok (.aload_n 0, 1) ∧ 52 + 1 = 53 := by decide +kernel
theorem dk_Debts_53 : decode c_Debts_init 53 = .ok (.bipush 20, 2) ∧ 53 + 2 = 55 := by decide +kernel
theorem dk_Debts_55 : decode c_Debts_init 55 = .ok (.newarray .int, 2) ∧ 55 + 2 = 57 := by decide +kernel
theorem dk_Debts_57 : decode c_Debts_init 57 = .ok (.putfield 30, 3) ∧ 57 + 3 = 60 := by decide +kernel
theorem dk_Debts_60 : decode c_Debts_init 60 = .ok (.return_, 1) := by decide +kernel
abbrev rm_Debts : Room := { frames := 1, cells := 7, slots := 140, locals := 20 }
set_option maxHeartbeats 4000000 in
set_option maxRecDepth 20000 in
theorem mk_Debts {l : Launch} {D : va_G} {cI cJ : ClassId} {h0 : Nat} : CtK l D cl_YC cI cJ y_Debts_init c_Debts_init 1 rm_Debts h0 [] (.inr (7, kZ fl_Debts)) (fun a => kW cI cJ 7 fl_Debts ar_Debts kF0 a 7) 7 140 := by
  refine CtK.of pn_Debts rfl (Nat.le_of_ble_eq_true rfl) rfl (fun Γ h => ?_)
  have h : IsK l D cl_YC cI cJ R_Debts c_Debts_init 1 rm_Debts h0 (.inr (7, kZ fl_Debts)) (fun a => kW cI cJ 7 fl_Debts ar_Debts kF0 a 7) 7 140 Γ := h
  have e0 : [(h0, (.inr (7, kZ fl_Debts) : va_E))] = kW cI cJ 7 fl_Debts ar_Debts kF0 (fun _ => h0) 0 := by unfold kW; rw [kF_0 _ (by decide)]; rfl
  rw [e0]
  refine k_aload h dk_Debts_0 0 rfl rfl ?_
  refine k_obj h ⟨tw_310, tw_101, tw_102⟩ ⟨by decide, by decide⟩ dk_Debts_1 ?_
  refine k_aload h dk_Debts_4 0 rfl rfl ?_
  refine k_bipush h dk_Debts_5 (v := 20) (by decide) ?_
  refine k_newI h (N := 20) tw_138 ⟨by decide, by decide, by decide⟩ ⟨by decide, by decide⟩ dk_Debts_7 (fun q1 => ?_)
  refine k_fin h (j := 0) (t := 0) rfl rfl cf_Debts ⟨by decide, by decide, by decide⟩ tw_311 (fun z => ⟨rfl, rfl⟩) ⟨rfl, by decide⟩ rfl rfl dk_Debts_9 ?_
  refine k_aload h dk_Debts_12 0 rfl rfl ?_
  refine k_bipush h dk_Debts_13 (v := 20) (by decide) ?_
  refine k_newI h (N := 20) tw_138 ⟨by decide, by decide, by decide⟩ ⟨by decide, by decide⟩ dk_Debts_15 (fun q2 => ?_)
  refine k_fin h (j := 1) (t := 1) rfl rfl cf_Debts ⟨by decide, by decide, by decide⟩ tw_313 (fun z => ⟨rfl, rfl⟩) ⟨rfl, by decide⟩ rfl rfl dk_Debts_17 ?_
  refine k_aload h dk_Debts_20 0 rfl rfl ?_
  refine k_bipush h dk_Debts_21 (v := 20) (by decide) ?_
  refine k_newI h (N := 20) tw_138 ⟨by decide, by decide, by decide⟩ ⟨by decide, by decide⟩ dk_Debts_23 (fun q3 => ?_)
  refine k_fin h (j := 2) (t := 2) rfl rfl cf_Debts ⟨by decide, by decide, by decide⟩ tw_315 (fun z => ⟨rfl, rfl⟩) ⟨rfl, by decide⟩ rfl rfl dk_Debts_25 ?_
  refine k_aload h dk_Debts_28 0 rfl rfl ?_
  refine k_bipush h dk_Debts_29 (v := 20) (by decide) ?_
  refine k_newI h (N := 20) tw_138 ⟨by decide, by decide, by decide⟩ ⟨by decide, by decide⟩ dk_Debts_31 (fun q4 => ?_)
  refine k_fin h (j := 3) (t := 3) rfl rfl cf_Debts ⟨by decide, by decide, by decide⟩ tw_317 (fun z => ⟨rfl, rfl⟩) ⟨rfl, by decide⟩ rfl rfl dk_Debts_33 ?_
  refine k_aload h dk_Debts_36 0 rfl rfl ?_
  refine k_bipush h dk_Debts_37 (v := 20) (by decide) ?_
  refine k_newI h (N := 20) tw_138 ⟨by decide, by decide, by decide⟩ ⟨by decide, by decide⟩ dk_Debts_39 (fun q5 => ?_)
  refine k_fin h (j := 4) (t := 4) rfl rfl cf_Debts ⟨by decide, by decide, by decide⟩ tw_319 (fun z => ⟨rfl, rfl⟩) ⟨rfl, by decide⟩ rfl rfl dk_Debts_41 ?_
  refine k_aload h dk_Debts_44 0 rfl rfl ?_
  refine k_bipush h dk_Debts_45 (v := 20) (by decide) ?_
  refine k_newI h (N := 20) tw_138 ⟨by decide, by decide, by decide⟩ ⟨by decide, by decide⟩ dk_Debts_47 (fun q6 => ?_)
  refine k_fin h (j := 5) (t := 5) rfl rfl cf_Debts ⟨by decide, by decide, by decide⟩ tw_321 (fun z => ⟨rfl, rfl⟩) ⟨rfl, by decide⟩ rfl rfl dk_Debts_49 ?_
  refine k_aload h dk_Debts_52 0 rfl rfl ?_
  refine k_bipush h dk_Debts_53 (v := 20) (by decide) ?_
  refine k_newI h (N := 20) tw_138 ⟨by decide, by decide, by decide⟩ ⟨by decide, by decide⟩ dk_Debts_55 (fun q7 => ?_)
  refine k_fin h (j := 6) (t := 6) rfl rfl cf_Debts ⟨by decide, by decide, by decide⟩ tw_323 (fun z => ⟨rfl, rfl⟩) ⟨rfl, by decide⟩ rfl rfl dk_Debts_57 ?_
  exact k_ret h _ rfl rfl dk_Debts_60
def fl_Owed : List (Option Nat) := [some 1, some 2, some 3, some 4, some 5, some 6, none]
def ar_Owed : List (Nat × Bool) := [(100, false), (100, false), (100, false), (10, false), (10, false), (4, false)]
theorem dk_Owed_0 : decode c_Owed_init 0 = .ok (.aload_n 0, 1) ∧ 0 + 1 = 1 := by decide +kernel
theorem dk_Owed_1 : decode c_Owed_init 1 = .ok (.invokespecial 1, 3) ∧ 1 + 3 = 4 := by decide +kernel
theorem dk_Owed_4 : decode c_Owed_init 4 = .ok (.aload_n 0, 1) ∧ 4 + 1 = 5 := by decide +kernel
theorem dk_Owed_5 : decode c_Owed_init 5 = .ok (.bipush 100, 2) ∧ 5 + 2 = 7 := by decide +kernel
theorem dk_Owed_7 : decode c_Owed_init 7 = .ok (.newarray .int, 2) ∧ 7 + 2 = 9 := by decide +kernel
theorem dk_Owed_9 : decode c_Owed_init 9 = .ok (.putfield 9, 3) ∧ 9 + 3 = 12 := by decide +kernel
theorem dk_Owed_12 : decode c_Owed_init 12 = .ok (.aload_n 0, 1) ∧ 12 + 1 = 13 := by decide +kernel
theorem dk_Owed_13 : decode c_Owed_init 13 = .ok (.bipush 100, 2) ∧ 13 + 2 = 15 := by decide +kernel
theorem dk_Owed_15 : decode c_Owed_init 15 = .ok (.newarray .int, 2) ∧ 15 + 2 = 17 := by decide +kernel
theorem dk_Owed_17 : decode c_Owed_init 17 = .ok (.putfield 13, 3) ∧ 17 + 3 = 20 := by decide +kernel
theorem dk_Owed_20 : decode c_Owed_init 20 = .ok (.aload_n 0, 1) ∧ 20 + 1 = 21 := by decide +kernel
theorem dk_Owed_21 : decode c_Owed_init 21 = .ok (.bipush 100, 2) ∧ 21 + 2 = 23 := by decide +kernel
theorem dk_Owed_23 : decode c_Owed_init 23 = .ok (.newarray .int, 2) ∧ 23 + 2 = 25 := by decide +kernel
theorem dk_Owed_25 : decode c_Owed_init 25 = .ok (.putfield 16, 3) ∧ 25 + 3 = 28 := by decide +kernel
theorem dk_Owed_28 : decode c_Owed_init 28 = .ok (.aload_n 0, 1) ∧ 28 + 1 = 29 := by decide +kernel
theorem dk_Owed_29 : decode c_Owed_init 29 = .ok (.bipush 10, 2) ∧ 29 + 2 = 31 := by decide +kernel
theorem dk_Owed_31 : decode c_Owed_init 31 = .ok (.newarray .int, 2) ∧ 31 + 2 = 33 := by decide +kernel
theorem dk_Owed_33 : decode c_Owed_init 33 = .ok (.putfield 19, 3) ∧ 33 + 3 = 36 := by decide +kernel
theorem dk_Owed_36 : decode c_Owed_init 36 = .ok (.aload_n 0, 1) ∧ 36 + 1 = 37 := by decide +kernel
theorem dk_Owed_37 : decode c_Owed_init 37 = .ok (.bipush 10, 2) ∧ 37 + 2 = 39 := by decide +kernel
theorem dk_Owed_39 : decode c_Owed_init 39 = .ok (.newarray .int, 2) ∧ 39 + 2 = 41 := by decide +kernel
theorem dk_Owed_41 : decode c_Owed_init 41 = .ok (.dup, 1) ∧ 41 + 1 = 42 := by decide +kernel
theorem dk_Owed_42 : decode c_Owed_init 42 = .ok (.iconst 0, 1) ∧ 42 + 1 = 43 := by decide +kernel
theorem dk_Owed_43 : decode c_Owed_init 43 = .ok (.iconst 1, 1) ∧ 43 + 1 = 44 := by decide +kernel
theorem dk_Owed_44 : decode c_Owed_init 44 = .ok (.iastore, 1) ∧ 44 + 1 = 45 := by decide +kernel
theorem dk_Owed_45 : decode c_Owed_init 45 = .ok (.dup, 1) ∧ 45 + 1 = 46 := by decide +kernel
theorem dk_Owed_46 : decode c_Owed_init 46 = .ok (.iconst 1, 1) ∧ 46 + 1 = 47 := by decide +kernel
theorem dk_Owed_47 : decode c_Owed_init 47 = .ok (.iconst 1, 1) ∧ 47 + 1 = 48 := by decide +kernel
theorem dk_Owed_48 : decode c_Owed_init 48 = .ok (.iastore, 1) ∧ 48 + 1 = 49 := by decide +kernel
theorem dk_Owed_49 : decode c_Owed_init 49 = .ok (.dup, 1) ∧ 49 + 1 = 50 := by decide +kernel
theorem dk_Owed_50 : decode c_Owed_init 50 = .ok (.iconst 2, 1) ∧ 50 + 1 = 51 := by decide +kernel
theorem dk_Owed_51 : decode c_Owed_init 51 = .ok (.iconst 1, 1) ∧ 51 + 1 = 52 := by decide +kernel
theorem dk_Owed_52 : decode c_Owed_init 52 = .ok (.iastore, 1) ∧ 52 + 1 = 53 := by decide +kernel
theorem dk_Owed_53 : decode c_Owed_init 53 = .ok (.dup, 1) ∧ 53 + 1 = 54 := by decide +kernel
theorem dk_Owed_54 : decode c_Owed_init 54 = .ok (.iconst 3, 1) ∧ 54 + 1 = 55 := by decide +kernel
theorem dk_Owed_55 : decode c_Owed_init 55 = .ok (.iconst 1, 1) ∧ 55 + 1 = 56 := by decide +kernel
theorem dk_Owed_56 : decode c_Owed_init 56 = .ok (.iastore, 1) ∧ 56 + 1 = 57 := by decide +kernel
theorem dk_Owed_57 : decode c_Owed_init 57 = .ok (.dup, 1) ∧ 57 + 1 = 58 := by decide +kernel
theorem dk_Owed_58 : decode c_Owed_init 58 = .ok (.iconst 4, 1) ∧ 58 + 1 = 59 := by decide +kernel
theorem dk_Owed_59 : decode c_Owed_init 59 = .ok (.iconst 1, 1) ∧ 59 + 1 = 60 := by decide +kernel
theorem dk_Owed_60 : decode c_Owed_init 60 = .ok (.iastore, 1) ∧ 60 + 1 = 61 := by decide +kernel
theorem dk_Owed_61 : decode c_Owed_init 61 = .ok (.dup, 1) ∧ 61 + 1 = 62 := by decide +kernel
theorem dk_Owed_62 : decode c_Owed_init 62 = .ok (.iconst 5, 1) ∧ 62 + 1 = 63 := by decide +kernel
theorem dk_Owed_63 : decode c_Owed_init 63 = .ok (.iconst 1, 1) ∧ 63 + 1 = 64 := by decide +kernel
theorem dk_Owed_64 : decode c_Owed_init 64 = .ok (.iastore, 1) ∧ 64 + 1 = 65 := by decide +kernel
theorem dk_Owed_65 : decode c_Owed_init 65 = .ok (.dup, 1) ∧ 65 + 1 = 66 := by decide +kernel
theorem dk_Owed_66 : decode c_Owed_init 66 = .ok (.bipush 6, 2) ∧ 66 + 2 = 68 := by decide +kernel
theorem dk_Owed_68 : decode c_Owed_init 68 = .ok (.iconst 1, 1) ∧ 68 + 1 = 69 := by decide +kernel
theorem dk_Owed_69 : decode c_Owed_init 69 = .ok (.iastore, 1) ∧ 69 + 1 = 70 := by decide +kernel
theorem dk_Owed_70 : decode c_Owed_init 70 = .ok (.dup, 1) ∧ 70 + 1 = 71 := by decide +kernel
theorem dk_Owed_71 : decode c_Owed_init 71 = .ok (.bipush 7, 2) ∧ 71 + 2 = 73 := by decide +kernel
theorem dk_Owed_73 : decode c_Owed_init 73 = .ok (.iconst 1, 1) ∧ 73 + 1 = 74 := by decide +kernel
theorem dk_Owed_74 : decode c_Owed_init 74 = .ok (.iastore, 1) ∧ 74 + 1 = 75 := by decide +kernel
theorem dk_Owed_75 : decode c_Owed_init 75 = .ok (.dup, 1) ∧ 75 + 1 = 76 := by decide +kernel
theorem dk_Owed_76 : decode c_Owed_init 76 = .ok (.bipush 8, 2) ∧ 76 + 2 = 78 := by decide +kernel
theorem dk_Owed_78 : decode c_Owed_init 78 = .ok (.iconst 1, 1) ∧ 78 + 1 = 79 := by decide +kernel
theorem dk_Owed_79 : decode c_Owed_init 79 = .ok (.iastore, 1) ∧ 79 + 1 = 80 := by decide +kernel
theorem dk_Owed_80 : decode c_Owed_init 80 = .ok (.dup, 1) ∧ 80 + 1 = 81 := by decide +kernel
theorem dk_Owed_81 : decode c_Owed_init 81 = .ok (.bipush 9, 2) ∧ 81 + 2 = 83 := by decide +kernel
theorem dk_Owed_83 : decode c_Owed_init 83 = .ok (.iconst 1, 1) ∧ 83 + 1 = 84 := by decide +kernel
theorem dk_Owed_84 : decode c_Owed_init 84 = .ok (.iastore, 1) ∧ 84 + 1 = 85 := by decide +kernel
theorem dk_Owed_85 : decode c_Owed_init 85 = .ok (.putfield 22, 3) ∧ 85 + 3 = 88 := by decide +kernel
theorem dk_Owed_88 : decode c_Owed_init 88 = .ok (.aload_n 0, 1) ∧ 88 + 1 = 89 := by decide +kernel
theorem dk_Owed_89 : decode c_Owed_init 89 = .ok (.iconst 4, 1) ∧ 89 + 1 = 90 := by decide +kernel
theorem dk_Owed_90 : decode c_Owed_init 90 = .ok (.newarray .int, 2) ∧ 90 + 2 = 92 := by decide +kernel
theorem dk_Owed_92 : decode c_Owed_init 92 = .ok (.putfield 25, 3) ∧ 92 + 3 = 95 := by decide +kernel
theorem dk_Owed_95 : decode c_Owed_init 95 = .ok (.return_, 1) := by decide +kernel
abbrev rm_Owed : Room := { frames := 1, cells := 6, slots := 324, locals := 20 }
set_option maxHeartbeats 4000000 in
set_option maxRecDepth 20000 in
theorem mk_Owed {l : Launch} {D : va_G} {cI cJ : ClassId} {h0 : Nat} : CtK l D cl_YC cI cJ y_Owed_init c_Owed_init 1 rm_Owed h0 [] (.inr (8, kZ fl_Owed)) (fun a => kW cI cJ 8 fl_Owed ar_Owed kFr a 6) 6 324 := by
  refine CtK.of pn_Owed rfl (Nat.le_of_ble_eq_true rfl) rfl (fun Γ h => ?_)
  have h : IsK l D cl_YC cI cJ R_Owed c_Owed_init 1 rm_Owed h0 (.inr (8, kZ fl_Owed)) (fun a => kW cI cJ 8 fl_Owed ar_Owed kFr a 6) 6 324 Γ := h
  have e0 : [(h0, (.inr (8, kZ fl_Owed) : va_E))] = kW cI cJ 8 fl_Owed ar_Owed kFr (fun _ => h0) 0 := by unfold kW; rw [kF_0 _ (by decide)]; rfl
  rw [e0]
  refine k_aload h dk_Owed_0 0 rfl rfl ?_
  refine k_obj h ⟨tw_349, tw_101, tw_102⟩ ⟨by decide, by decide⟩ dk_Owed_1 ?_
  refine k_aload h dk_Owed_4 0 rfl rfl ?_
  refine k_bipush h dk_Owed_5 (v := 100) (by decide) ?_
  refine k_newI h (N := 100) tw_138 ⟨by decide, by decide, by decide⟩ ⟨by decide, by decide⟩ dk_Owed_7 (fun q1 => ?_)
  refine k_fin h (j := 0) (t := 0) rfl rfl cf_Owed ⟨by decide, by decide, by decide⟩ tw_350 (fun z => ⟨rfl, rfl⟩) ⟨rfl, by decide⟩ rfl rfl dk_Owed_9 ?_
  refine k_aload h dk_Owed_12 0 rfl rfl ?_
  refine k_bipush h dk_Owed_13 (v := 100) (by decide) ?_
  refine k_newI h (N := 100) tw_138 ⟨by decide, by decide, by decide⟩ ⟨by decide, by decide⟩ dk_Owed_15 (fun q2 => ?_)
  refine k_fin h (j := 1) (t := 1) rfl rfl cf_Owed ⟨by decide, by decide, by decide⟩ tw_352 (fun z => ⟨rfl, rfl⟩) ⟨rfl, by decide⟩ rfl rfl dk_Owed_17 ?_
  refine k_aload h dk_Owed_20 0 rfl rfl ?_
  refine k_bipush h dk_Owed_21 (v := 100) (by decide) ?_
  refine k_newI h (N := 100) tw_138 ⟨by decide, by decide, by decide⟩ ⟨by decide, by decide⟩ dk_Owed_23 (fun q3 => ?_)
  refine k_fin h (j := 2) (t := 2) rfl rfl cf_Owed ⟨by decide, by decide, by decide⟩ tw_354 (fun z => ⟨rfl, rfl⟩) ⟨rfl, by decide⟩ rfl rfl dk_Owed_25 ?_
  refine k_aload h dk_Owed_28 0 rfl rfl ?_
  refine k_bipush h dk_Owed_29 (v := 10) (by decide) ?_
  refine k_newI h (N := 10) tw_138 ⟨by decide, by decide, by decide⟩ ⟨by decide, by decide⟩ dk_Owed_31 (fun q4 => ?_)
  refine k_fin h (j := 3) (t := 3) rfl rfl cf_Owed ⟨by decide, by decide, by decide⟩ tw_355 (fun z => ⟨rfl, rfl⟩) ⟨rfl, by decide⟩ rfl rfl dk_Owed_33 ?_
  refine k_aload h dk_Owed_36 0 rfl rfl ?_
  refine k_bipush h dk_Owed_37 (v := 10) (by decide) ?_
  refine k_newI h (N := 10) tw_138 ⟨by decide, by decide, by decide⟩ ⟨by decide, by decide⟩ dk_Owed_39 (fun q5 => ?_)
  refine k_dup h dk_Owed_41 rfl ?_
  refine k_iconst h dk_Owed_42 (v := 0) (by decide) ?_
  refine k_iconst h dk_Owed_43 (v := 1) (by decide) ?_
  refine k_iastL h (by decide) dk_Owed_44 ?_
  refine k_dup h dk_Owed_45 rfl ?_
  refine k_iconst h dk_Owed_46 (v := 1) (by decide) ?_
  refine k_iconst h dk_Owed_47 (v := 1) (by decide) ?_
  refine k_iastL h (by decide) dk_Owed_48 ?_
  refine k_dup h dk_Owed_49 rfl ?_
  refine k_iconst h dk_Owed_50 (v := 2) (by decide) ?_
  refine k_iconst h dk_Owed_51 (v := 1) (by decide) ?_
  refine k_iastL h (by decide) dk_Owed_52 ?_
  refine k_dup h dk_Owed_53 rfl ?_
  refine k_iconst h dk_Owed_54 (v := 3) (by decide) ?_
  refine k_iconst h dk_Owed_55 (v := 1) (by decide) ?_
  refine k_iastL h (by decide) dk_Owed_56 ?_
  refine k_dup h dk_Owed_57 rfl ?_
  refine k_iconst h dk_Owed_58 (v := 4) (by decide) ?_
  refine k_iconst h dk_Owed_59 (v := 1) (by decide) ?_
  refine k_iastL h (by decide) dk_Owed_60 ?_
  refine k_dup h dk_Owed_61 rfl ?_
  refine k_iconst h dk_Owed_62 (v := 5) (by decide) ?_
  refine k_iconst h dk_Owed_63 (v := 1) (by decide) ?_
  refine k_iastL h (by decide) dk_Owed_64 ?_
  refine k_dup h dk_Owed_65 rfl ?_
  refine k_bipush h dk_Owed_66 (v := 6) (by decide) ?_
  refine k_iconst h dk_Owed_68 (v := 1) (by decide) ?_
  refine k_iastL h (by decide) dk_Owed_69 ?_
  refine k_dup h dk_Owed_70 rfl ?_
  refine k_bipush h dk_Owed_71 (v := 7) (by decide) ?_
  refine k_iconst h dk_Owed_73 (v := 1) (by decide) ?_
  refine k_iastL h (by decide) dk_Owed_74 ?_
  refine k_dup h dk_Owed_75 rfl ?_
  refine k_bipush h dk_Owed_76 (v := 8) (by decide) ?_
  refine k_iconst h dk_Owed_78 (v := 1) (by decide) ?_
  refine k_iastL h (by decide) dk_Owed_79 ?_
  refine k_dup h dk_Owed_80 rfl ?_
  refine k_bipush h dk_Owed_81 (v := 9) (by decide) ?_
  refine k_iconst h dk_Owed_83 (v := 1) (by decide) ?_
  refine k_iastL h (by decide) dk_Owed_84 ?_
  refine k_fin h (j := 4) (t := 4) rfl rfl cf_Owed ⟨by decide, by decide, by decide⟩ tw_356 (fun z => ⟨rfl, rfl⟩) ⟨rfl, by decide⟩ rfl (by rw [kr_eq]; rfl) dk_Owed_85 ?_
  refine k_aload h dk_Owed_88 0 rfl rfl ?_
  refine k_iconst h dk_Owed_89 (v := 4) (by decide) ?_
  refine k_newI h (N := 4) tw_138 ⟨by decide, by decide, by decide⟩ ⟨by decide, by decide⟩ dk_Owed_90 (fun q6 => ?_)
  refine k_fin h (j := 5) (t := 5) rfl rfl cf_Owed ⟨by decide, by decide, by decide⟩ tw_357 (fun z => ⟨rfl, rfl⟩) ⟨rfl, by decide⟩ rfl rfl dk_Owed_92 ?_
  exact k_ret h _ rfl rfl dk_Owed_95
def fl_Rounds : List (Option Nat) := [some 1, some 2, none]
def ar_Rounds : List (Nat × Bool) := [(10, false), (80, false)]
theorem dk_Rounds_0 : decode c_Rounds_init 0 = .ok (.aload_n 0, 1) ∧ 0 + 1 = 1 := by decide +kernel
theorem dk_Rounds_1 : decode c_Rounds_init 1 = .ok (.invokespecial 3, 3) ∧ 1 + 3 = 4 := by decide +kernel
theorem dk_Rounds_4 : decode c_Rounds_init 4 = .ok (.aload_n 0, 1) ∧ 4 + 1 = 5 := by decide +kernel
theorem dk_Rounds_5 : decode c_Rounds_init 5 = .ok (.bipush 10, 2) ∧ 5 + 2 = 7 := by decide +kernel
theorem dk_Rounds_7 : decode c_Rounds_init 7 = .ok (.newarray .int, 2) ∧ 7 + 2 = 9 := by decide +kernel
theorem dk_Rounds_9 : decode c_Rounds_init 9 = .ok (.putfield 9, 3) ∧ 9 + 3 = 12 := by decide +kernel
theorem dk_Rounds_12 : decode c_Rounds_init 12 = .ok (.aload_n 0, 1) ∧ 12 + 1 = 13 := by decide +kernel
theorem dk_Rounds_13 : decode c_Rounds_init 13 = .ok (.bipush 80, 2) ∧ 13 + 2 = 15 := by decide +kernel
theorem dk_Rounds_15 : decode c_Rounds_init 15 = .ok (.newarray .int, 2) ∧ 15 + 2 = 17 := by decide +kernel
theorem dk_Rounds_17 : decode c_Rounds_init 17 = .ok (.putfield 15, 3) ∧ 17 + 3 = 20 := by decide +kernel
theorem dk_Rounds_20 : decode c_Rounds_init 20 = .ok (.return_, 1) := by decide +kernel
abbrev rm_Rounds : Room := { frames := 1, cells := 2, slots := 90, locals := 20 }
set_option maxHeartbeats 4000000 in
set_option maxRecDepth 20000 in
theorem mk_Rounds {l : Launch} {D : va_G} {cI cJ : ClassId} {h0 : Nat} : CtK l D cl_YC cI cJ y_Rounds_init c_Rounds_init 1 rm_Rounds h0 [] (.inr (9, kZ fl_Rounds)) (fun a => kW cI cJ 9 fl_Rounds ar_Rounds kF0 a 2) 2 90 := by
  refine CtK.of pn_Rounds rfl (Nat.le_of_ble_eq_true rfl) rfl (fun Γ h => ?_)
  have h : IsK l D cl_YC cI cJ R_Rounds c_Rounds_init 1 rm_Rounds h0 (.inr (9, kZ fl_Rounds)) (fun a => kW cI cJ 9 fl_Rounds ar_Rounds kF0 a 2) 2 90 Γ := h
  have e0 : [(h0, (.inr (9, kZ fl_Rounds) : va_E))] = kW cI cJ 9 fl_Rounds ar_Rounds kF0 (fun _ => h0) 0 := by unfold kW; rw [kF_0 _ (by decide)]; rfl
  rw [e0]
  refine k_aload h dk_Rounds_0 0 rfl rfl ?_
  refine k_obj h ⟨tw_379, tw_101, tw_102⟩ ⟨by decide, by decide⟩ dk_Rounds_1 ?_
  refine k_aload h dk_Rounds_4 0 rfl rfl ?_
  refine k_bipush h dk_Rounds_5 (v := 10) (by decide) ?_
  refine k_newI h (N := 10) tw_138 ⟨by decide, by decide, by decide⟩ ⟨by decide, by decide⟩ dk_Rounds_7 (fun q1 => ?_)
  refine k_fin h (j := 0) (t := 0) rfl rfl cf_Rounds ⟨by decide, by decide, by decide⟩ tw_380 (fun z => ⟨rfl, rfl⟩) ⟨rfl, by decide⟩ rfl rfl dk_Rounds_9 ?_
  refine k_aload h dk_Rounds_12 0 rfl rfl ?_
  refine k_bipush h dk_Rounds_13 (v := 80) (by decide) ?_
  refine k_newI h (N := 80) tw_138 ⟨by decide, by decide, by decide⟩ ⟨by decide, by decide⟩ dk_Rounds_15 (fun q2 => ?_)
  refine k_fin h (j := 1) (t := 1) rfl rfl cf_Rounds ⟨by decide, by decide, by decide⟩ tw_382 (fun z => ⟨rfl, rfl⟩) ⟨rfl, by decide⟩ rfl rfl dk_Rounds_17 ?_
  exact k_ret h _ rfl rfl dk_Rounds_20
def fl_Offers : List (Option Nat) := [some 1, some 2, some 3, some 4, some 5, some 6, none, none, none, none]
def ar_Offers : List (Nat × Bool) := [(9, false), (9, false), (9, false), (9, false), (9, false), (4, false)]
theorem dk_Offers_0 : decode c_Offers_init 0 = .ok (.aload_n 0, 1) ∧ 0 + 1 = 1 := by decide +kernel
theorem dk_Offers_1 : decode c_Offers_init 1 = .ok (.invokespecial 3, 3) ∧ 1 + 3 = 4 := by decide +kernel
theorem dk_Offers_4 : decode c_Offers_init 4 = .ok (.aload_n 0, 1) ∧ 4 + 1 = 5 := by decide +kernel
theorem dk_Offers_5 : decode c_Offers_init 5 = .ok (.bipush 9, 2) ∧ 5 + 2 = 7 := by decide +kernel
theorem dk_Offers_7 : decode c_Offers_init 7 = .ok (.newarray .int, 2) ∧ 7 + 2 = 9 := by decide +kernel
theorem dk_Offers_9 : decode c_Offers_init 9 = .ok (.putfield 9, 3) ∧ 9 + 3 = 12 := by decide +kernel
theorem dk_Offers_12 : decode c_Offers_init 12 = .ok (.aload_n 0, 1) ∧ 12 + 1 = 13 := by decide +kernel
theorem dk_Offers_13 : decode c_Offers_init 13 = .ok (.bipush 9, 2) ∧ 13 + 2 = 15 := by decide +kernel
theorem dk_Offers_15 : decode c_Offers_init 15 = .ok (.newarray .int, 2) ∧ 15 + 2 = 17 := by decide +kernel
theorem dk_Offers_17 : decode c_Offers_init 17 = .ok (.putfield 15, 3) ∧ 17 + 3 = 20 := by decide +kernel
theorem dk_Offers_20 : decode c_Offers_init 20 = .ok (.aload_n 0, 1) ∧ 20 + 1 = 21 := by decide +kernel
theorem dk_Offers_21 : decode c_Offers_init 21 = .ok (.bipush 9, 2) ∧ 21 + 2 = 23 := by decide +kernel
theorem dk_Offers_23 : decode c_Offers_init 23 = .ok (.newarray .int, 2) ∧ 23 + 2 = 25 := by decide +kernel
theorem dk_Offers_25 : decode c_Offers_init 25 = .ok (.putfield 18, 3) ∧ 25 + 3 = 28 := by decide +kernel
theorem dk_Offers_28 : decode c_Offers_init 28 = .ok (.aload_n 0, 1) ∧ 28 + 1 = 29 := by decide +kernel
theorem dk_Offers_29 : decode c_Offers_init 29 = .ok (.bipush 9, 2) ∧ 29 + 2 = 31 := by decide +kernel
theorem dk_Offers_31 : decode c_Offers_init 31 = .ok (.newarray .int, 2) ∧ 31 + 2 = 33 := by decide +kernel
theorem dk_Offers_33 : decode c_Offers_init 33 = .ok (.putfield 21, 3) ∧ 33 + 3 = 36 := by decide +kernel
theorem dk_Offers_36 : decode c_Offers_init 36 = .ok (.aload_n 0, 1) ∧ 36 + 1 = 37 := by decide +kernel
theorem dk_Offers_37 : decode c_Offers_init 37 = .ok (.bipush 9, 2) ∧ 37 + 2 = 39 := by decide +kernel
theorem dk_Offers_39 : decode c_Offers_init 39 = .ok (.newarray .int, 2) ∧ 39 + 2 = 41 := by decide +kernel
theorem dk_Offers_41 : decode c_Offers_init 41 = .ok (.putfield 24, 3) ∧ 41 + 3 = 44 := by decide +kernel
theorem dk_Offers_44 : decode c_Offers_init 44 = .ok (.aload_n 0, 1) ∧ 44 + 1 = 45 := by decide +kernel
theorem dk_Offers_45 : decode c_Offers_init 45 = .ok (.iconst 4, 1) ∧ 45 + 1 = 46 := by decide +kernel
theorem dk_Offers_46 : decode c_Offers_init 46 = .ok (.newarray .int, 2) ∧ 46 + 2 = 48 := by decide +kernel
theorem dk_Offers_48 : decode c_Offers_init 48 = .ok (.putfield 27, 3) ∧ 48 + 3 = 51 := by decide +kernel
theorem dk_Offers_51 : decode c_Offers_init 51 = .ok (.return_, 1) := by decide +kernel
abbrev rm_Offers : Room := { frames := 1, cells := 6, slots := 49, locals := 20 }
set_option maxHeartbeats 4000000 in
set_option maxRecDepth 20000 in
theorem mk_Offers {l : Launch} {D : va_G} {cI cJ : ClassId} {h0 : Nat} : CtK l D cl_YC cI cJ y_Offers_init c_Offers_init 1 rm_Offers h0 [] (.inr (10, kZ fl_Offers)) (fun a => kW cI cJ 10 fl_Offers ar_Offers kF0 a 6) 6 49 := by
  refine CtK.of pn_Offers rfl (Nat.le_of_ble_eq_true rfl) rfl (fun Γ h => ?_)
  have h : IsK l D cl_YC cI cJ R_Offers c_Offers_init 1 rm_Offers h0 (.inr (10, kZ fl_Offers)) (fun a => kW cI cJ 10 fl_Offers ar_Offers kF0 a 6) 6 49 Γ := h
  have e0 : [(h0, (.inr (10, kZ fl_Offers) : va_E))] = kW cI cJ 10 fl_Offers ar_Offers kF0 (fun _ => h0) 0 := by unfold kW; rw [kF_0 _ (by decide)]; rfl
  rw [e0]
  refine k_aload h dk_Offers_0 0 rfl rfl ?_
  refine k_obj h ⟨tw_397, tw_101, tw_102⟩ ⟨by decide, by decide⟩ dk_Offers_1 ?_
  refine k_aload h dk_Offers_4 0 rfl rfl ?_
  refine k_bipush h dk_Offers_5 (v := 9) (by decide) ?_
  refine k_newI h (N := 9) tw_138 ⟨by decide, by decide, by decide⟩ ⟨by decide, by decide⟩ dk_Offers_7 (fun q1 => ?_)
  refine k_fin h (j := 0) (t := 0) rfl rfl cf_Offers ⟨by decide, by decide, by decide⟩ tw_398 (fun z => ⟨rfl, rfl⟩) ⟨rfl, by decide⟩ rfl rfl dk_Offers_9 ?_
  refine k_aload h dk_Offers_12 0 rfl rfl ?_
  refine k_bipush h dk_Offers_13 (v := 9) (by decide) ?_
  refine k_newI h (N := 9) tw_138 ⟨by decide, by decide, by decide⟩ ⟨by decide, by decide⟩ dk_Offers_15 (fun q2 => ?_)
  refine k_fin h (j := 1) (t := 1) rfl rfl cf_Offers ⟨by decide, by decide, by decide⟩ tw_399 (fun z => ⟨rfl, rfl⟩) ⟨rfl, by decide⟩ rfl rfl dk_Offers_17 ?_
  refine k_aload h dk_Offers_20 0 rfl rfl ?_
  refine k_bipush h dk_Offers_21 (v := 9) (by decide) ?_
  refine k_newI h (N := 9) tw_138 ⟨by decide, by decide, by decide⟩ ⟨by decide, by decide⟩ dk_Offers_23 (fun q3 => ?_)
  refine k_fin h (j := 2) (t := 2) rfl rfl cf_Offers ⟨by decide, by decide, by decide⟩ tw_400 (fun z => ⟨rfl, rfl⟩) ⟨rfl, by decide⟩ rfl rfl dk_Offers_25 ?_
  refine k_aload h dk_Offers_28 0 rfl rfl ?_
  refine k_bipush h dk_Offers_29 (v := 9) (by decide) ?_
  refine k_newI h (N := 9) tw_138 ⟨by decide, by decide, by decide⟩ ⟨by decide, by decide⟩ dk_Offers_31 (fun q4 => ?_)
  refine k_fin h (j := 3) (t := 3) rfl rfl cf_Offers ⟨by decide, by decide, by decide⟩ tw_401 (fun z => ⟨rfl, rfl⟩) ⟨rfl, by decide⟩ rfl rfl dk_Offers_33 ?_
  refine k_aload h dk_Offers_36 0 rfl rfl ?_
  refine k_bipush h dk_Offers_37 (v := 9) (by decide) ?_
  refine k_newI h (N := 9) tw_138 ⟨by decide, by decide, by decide⟩ ⟨by decide, by decide⟩ dk_Offers_39 (fun q5 => ?_)
  refine k_fin h (j := 4) (t := 4) rfl rfl cf_Offers ⟨by decide, by decide, by decide⟩ tw_402 (fun z => ⟨rfl, rfl⟩) ⟨rfl, by decide⟩ rfl rfl dk_Offers_41 ?_
  refine k_aload h dk_Offers_44 0 rfl rfl ?_
  refine k_iconst h dk_Offers_45 (v := 4) (by decide) ?_
  refine k_newI h (N := 4) tw_138 ⟨by decide, by decide, by decide⟩ ⟨by decide, by decide⟩ dk_Offers_46 (fun q6 => ?_)
  refine k_fin h (j := 5) (t := 5) rfl rfl cf_Offers ⟨by decide, by decide, by decide⟩ tw_403 (fun z => ⟨rfl, rfl⟩) ⟨rfl, by decide⟩ rfl rfl dk_Offers_48 ?_
  exact k_ret h _ rfl rfl dk_Offers_51
def fl_Sheets : List (Option Nat) := [some 1, some 2, some 3]
def ar_Sheets : List (Nat × Bool) := [(240, false), (4, false), (4, false)]
theorem dk_Sheets_0 : decode c_Sheets_init 0 = .ok (.aload_n 0, 1) ∧ 0 + 1 = 1 := by decide +kernel
theorem dk_Sheets_1 : decode c_Sheets_init 1 = .ok (.invokespecial 3, 3) ∧ 1 + 3 = 4 := by decide +kernel
theorem dk_Sheets_4 : decode c_Sheets_init 4 = .ok (.aload_n 0, 1) ∧ 4 + 1 = 5 := by decide +kernel
theorem dk_Sheets_5 : decode c_Sheets_init 5 = .ok (.sipush 240, 3) ∧ 5 + 3 = 8 := by decide +kernel
theorem dk_Sheets_8 : decode c_Sheets_init 8 = .ok (.newarray .int, 2) ∧ 8 + 2 = 10 := by decide +kernel
theorem dk_Sheets_10 : decode c_Sheets_init 10 = .ok (.putfield 11, 3) ∧ 10 + 3 = 13 := by decide +kernel
theorem dk_Sheets_13 : decode c_Sheets_init 13 = .ok (.aload_n 0, 1) ∧ 13 + 1 = 14 := by decide +kernel
theorem dk_Sheets_14 : decode c_Sheets_init 14 = .ok (.iconst 4, 1) ∧ 14 + 1 = 15 := by decide +kernel
theorem dk_Sheets_15 : decode c_Sheets_init 15 = .ok (.newarray .int, 2) ∧ 15 + 2 = 17 := by decide +kernel
theorem dk_Sheets_17 : decode c_Sheets_init 17 = .ok (.putfield 15, 3) ∧ 17 + 3 = 20 := by decide +kernel
theorem dk_Sheets_20 : decode c_Sheets_init 20 = .ok (.aload_n 0, 1) ∧ 20 + 1 = 21 := by decide +kernel
theorem dk_Sheets_21 : decode c_Sheets_init 21 = .ok (.iconst 4, 1) ∧ 21 + 1 = 22 := by decide +kernel
theorem dk_Sheets_22 : decode c_Sheets_init 22 = .ok (.newarray .int, 2) ∧ 22 + 2 = 24 := by decide +kernel
theorem dk_Sheets_24 : decode c_Sheets_init 24 = .ok (.dup, 1) ∧ 24 + 1 = 25 := by decide +kernel
theorem dk_Sheets_25 : decode c_Sheets_init 25 = .ok (.iconst 0, 1) ∧ 25 + 1 = 26 := by decide +kernel
theorem dk_Sheets_26 : decode c_Sheets_init 26 = .ok (.bipush (-9), 2) ∧ 26 + 2 = 28 := by decide +kernel
theorem dk_Sheets_28 : decode c_Sheets_init 28 = .ok (.iastore, 1) ∧ 28 + 1 = 29 := by decide +kernel
theorem dk_Sheets_29 : decode c_Sheets_init 29 = .ok (.dup, 1) ∧ 29 + 1 = 30 := by decide +kernel
theorem dk_Sheets_30 : decode c_Sheets_init 30 = .ok (.iconst 1, 1) ∧ 30 + 1 = 31 := by decide +kernel
theorem dk_Sheets_31 : decode c_Sheets_init 31 = .ok (.bipush (-9), 2) ∧ 31 + 2 = 33 := by decide +kernel
theorem dk_Sheets_33 : decode c_Sheets_init 33 = .ok (.iastore, 1) ∧ 33 + 1 = 34 := by decide +kernel
theorem dk_Sheets_34 : decode c_Sheets_init 34 = .ok (.dup, 1) ∧ 34 + 1 = 35 := by decide +kernel
theorem dk_Sheets_35 : decode c_Sheets_init 35 = .ok (.iconst 2, 1) ∧ 35 + 1 = 36 := by decide +kernel
theorem dk_Sheets_36 : decode c_Sheets_init 36 = .ok (.bipush (-9), 2) ∧ 36 + 2 = 38 := by decide +kernel
theorem dk_Sheets_38 : decode c_Sheets_init 38 = .ok (.iastore, 1) ∧ 38 + 1 = 39 := by decide +kernel
theorem dk_Sheets_39 : decode c_Sheets_init 39 = .ok (.dup, 1) ∧ 39 + 1 = 40 := by decide +kernel
theorem dk_Sheets_40 : decode c_Sheets_init 40 = .ok (.iconst 3, 1) ∧ 40 + 1 = 41 := by decide +kernel
theorem dk_Sheets_41 : decode c_Sheets_init 41 = .ok (.bipush (-9), 2) ∧ 41 + 2 = 43 := by decide +kernel
theorem dk_Sheets_43 : decode c_Sheets_init 43 = .ok (.iastore, 1) ∧ 43 + 1 = 44 := by decide +kernel
theorem dk_Sheets_44 : decode c_Sheets_init 44 = .ok (.putfield 18, 3) ∧ 44 + 3 = 47 := by decide +kernel
theorem dk_Sheets_47 : decode c_Sheets_init 47 = .ok (.return_, 1) := by decide +kernel
abbrev rm_Sheets : Room := { frames := 1, cells := 3, slots := 248, locals := 20 }
set_option maxHeartbeats 4000000 in
set_option maxRecDepth 20000 in
theorem mk_Sheets {l : Launch} {D : va_G} {cI cJ : ClassId} {h0 : Nat} : CtK l D cl_YC cI cJ y_Sheets_init c_Sheets_init 1 rm_Sheets h0 [] (.inr (11, kZ fl_Sheets)) (fun a => kW cI cJ 11 fl_Sheets ar_Sheets kFs a 3) 3 248 := by
  refine CtK.of pn_Sheets rfl (Nat.le_of_ble_eq_true rfl) rfl (fun Γ h => ?_)
  have h : IsK l D cl_YC cI cJ R_Sheets c_Sheets_init 1 rm_Sheets h0 (.inr (11, kZ fl_Sheets)) (fun a => kW cI cJ 11 fl_Sheets ar_Sheets kFs a 3) 3 248 Γ := h
  have e0 : [(h0, (.inr (11, kZ fl_Sheets) : va_E))] = kW cI cJ 11 fl_Sheets ar_Sheets kFs (fun _ => h0) 0 := by unfold kW; rw [kF_0 _ (by decide)]; rfl
  rw [e0]
  refine k_aload h dk_Sheets_0 0 rfl rfl ?_
  refine k_obj h ⟨tw_437, tw_101, tw_102⟩ ⟨by decide, by decide⟩ dk_Sheets_1 ?_
  refine k_aload h dk_Sheets_4 0 rfl rfl ?_
  refine k_sipush h dk_Sheets_5 (v := 240) (by decide) ?_
  refine k_newI h (N := 240) tw_138 ⟨by decide, by decide, by decide⟩ ⟨by decide, by decide⟩ dk_Sheets_8 (fun q1 => ?_)
  refine k_fin h (j := 0) (t := 0) rfl rfl cf_Sheets ⟨by decide, by decide, by decide⟩ tw_438 (fun z => ⟨rfl, rfl⟩) ⟨rfl, by decide⟩ rfl rfl dk_Sheets_10 ?_
  refine k_aload h dk_Sheets_13 0 rfl rfl ?_
  refine k_iconst h dk_Sheets_14 (v := 4) (by decide) ?_
  refine k_newI h (N := 4) tw_138 ⟨by decide, by decide, by decide⟩ ⟨by decide, by decide⟩ dk_Sheets_15 (fun q2 => ?_)
  refine k_fin h (j := 1) (t := 1) rfl rfl cf_Sheets ⟨by decide, by decide, by decide⟩ tw_439 (fun z => ⟨rfl, rfl⟩) ⟨rfl, by decide⟩ rfl rfl dk_Sheets_17 ?_
  refine k_aload h dk_Sheets_20 0 rfl rfl ?_
  refine k_iconst h dk_Sheets_21 (v := 4) (by decide) ?_
  refine k_newI h (N := 4) tw_138 ⟨by decide, by decide, by decide⟩ ⟨by decide, by decide⟩ dk_Sheets_22 (fun q3 => ?_)
  refine k_dup h dk_Sheets_24 rfl ?_
  refine k_iconst h dk_Sheets_25 (v := 0) (by decide) ?_
  refine k_bipush h dk_Sheets_26 (v := (-9)) (by decide) ?_
  refine k_iastL h (by decide) dk_Sheets_28 ?_
  refine k_dup h dk_Sheets_29 rfl ?_
  refine k_iconst h dk_Sheets_30 (v := 1) (by decide) ?_
  refine k_bipush h dk_Sheets_31 (v := (-9)) (by decide) ?_
  refine k_iastL h (by decide) dk_Sheets_33 ?_
  refine k_dup h dk_Sheets_34 rfl ?_
  refine k_iconst h dk_Sheets_35 (v := 2) (by decide) ?_
  refine k_bipush h dk_Sheets_36 (v := (-9)) (by decide) ?_
  refine k_iastL h (by decide) dk_Sheets_38 ?_
  refine k_dup h dk_Sheets_39 rfl ?_
  refine k_iconst h dk_Sheets_40 (v := 3) (by decide) ?_
  refine k_bipush h dk_Sheets_41 (v := (-9)) (by decide) ?_
  refine k_iastL h (by decide) dk_Sheets_43 ?_
  refine k_fin h (j := 2) (t := 2) rfl rfl cf_Sheets ⟨by decide, by decide, by decide⟩ tw_441 (fun z => ⟨rfl, rfl⟩) ⟨rfl, by decide⟩ rfl (by rw [ks_eq]; rfl) dk_Sheets_44 ?_
  exact k_ret h _ rfl rfl dk_Sheets_47
