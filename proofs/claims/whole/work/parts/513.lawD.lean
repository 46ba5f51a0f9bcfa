theorem dc_place : cDb 260 1 13 17 (2099) = true := by decide +kernel
set_option maxHeartbeats 1000000 in
theorem cs_place {b L : Nat} {xs : Nat → Int32} {Zc Zm : Sy} {K N : Nat} {Γ : Nat → List (Nat × Value) → List Value → St → St → Prop} {σ τ : St} {i j : Nat} (h : IsL b L xs Zc Zm K N Γ) (hKN : K ≤ 600000 ∧ N ≤ 7302249) (hi : i + 8 ≤ L) (hL : L ≤ 4096) (hR : RelF j σ τ) (hj : j < 512) (cont : ∀ σ' τ', RelF (j + 1) σ' τ' → Γ 2377 (lsL b Zc Zm (nI i)) [] σ' τ') : Γ 260 (lsL b Zc Zm (nI i)) [] σ τ := by
  obtain ⟨r, σ', τ', e1, e2, h1, s1⟩ := op_place hR.1 (xs (i + 1))
  exact l_case h hKN hi hL (by decide) dc_place lk_L_13 vk_L_13 rfl lk_L_17 vk_L_17 rfl (d1 := 2) (d2 := 3) (by decide) (by decide) rfl (v := r) (m_P_place e1) (m_M_place e2) (cont _ _ (relF_s hR (rel_up h1 hj) s1))
theorem dc_band : cDb 283 2 18 22 (2066) = true := by decide +kernel
set_option maxHeartbeats 1000000 in
theorem cs_band {b L : Nat} {xs : Nat → Int32} {Zc Zm : Sy} {K N : Nat} {Γ : Nat → List (Nat × Value) → List Value → St → St → Prop} {σ τ : St} {i j : Nat} (h : IsL b L xs Zc Zm K N Γ) (hKN : K ≤ 600000 ∧ N ≤ 7302249) (hi : i + 8 ≤ L) (hL : L ≤ 4096) (hR : RelF j σ τ) (hj : j < 512) (cont : ∀ σ' τ', RelF (j + 1) σ' τ' → Γ 2377 (lsL b Zc Zm (nI i)) [] σ' τ') : Γ 283 (lsL b Zc Zm (nI i)) [] σ τ := by
  obtain ⟨r, σ', τ', e1, e2, h1, s1⟩ := op_band hR.1 (xs (i + 1)) (xs (i + 2))
  exact l_case h hKN hi hL (by decide) dc_band lk_L_18 vk_L_18 rfl lk_L_22 vk_L_22 rfl (d1 := 2) (d2 := 2) (by decide) (by decide) rfl (v := r) (m_P_band e1) (m_M_band e2) (cont _ _ (relF_s hR (rel_up h1 hj) s1))
theorem dc_house : cDb 316 1 23 26 (2043) = true := by decide +kernel
set_option maxHeartbeats 1000000 in
theorem cs_house {b L : Nat} {xs : Nat → Int32} {Zc Zm : Sy} {K N : Nat} {Γ : Nat → List (Nat × Value) → List Value → St → St → Prop} {σ τ : St} {i j : Nat} (h : IsL b L xs Zc Zm K N Γ) (hKN : K ≤ 600000 ∧ N ≤ 7302249) (hi : i + 8 ≤ L) (hL : L ≤ 4096) (hR : RelF j σ τ) (hj : j < 512) (cont : ∀ σ' τ', RelF (j + 1) σ' τ' → Γ 2377 (lsL b Zc Zm (nI i)) [] σ' τ') : Γ 316 (lsL b Zc Zm (nI i)) [] σ τ := by
  obtain ⟨r, σ', τ', e1, e2, h1, s1⟩ := op_house hR.1 (xs (i + 1))
  exact l_case h hKN hi hL (by decide) dc_house lk_L_23 vk_L_23 rfl lk_L_26 vk_L_26 rfl (d1 := 2) (d2 := 2) (by decide) (by decide) rfl (v := r) (m_P_house e1) (m_M_house e2) (cont _ _ (relF_s hR (rel_up h1 hj) s1))
theorem dc_walk : cDb 339 4 27 31 (1990) = true := by decide +kernel
set_option maxHeartbeats 1000000 in
theorem cs_walk {b L : Nat} {xs : Nat → Int32} {Zc Zm : Sy} {K N : Nat} {Γ : Nat → List (Nat × Value) → List Value → St → St → Prop} {σ τ : St} {i j : Nat} (h : IsL b L xs Zc Zm K N Γ) (hKN : K ≤ 600000 ∧ N ≤ 7302249) (hi : i + 8 ≤ L) (hL : L ≤ 4096) (hR : RelF j σ τ) (hj : j < 512) (cont : ∀ σ' τ', RelF (j + 1) σ' τ' → Γ 2377 (lsL b Zc Zm (nI i)) [] σ' τ') : Γ 339 (lsL b Zc Zm (nI i)) [] σ τ := by
  obtain ⟨r, σ', τ', e1, e2, h1, s1⟩ := op_walk hR.1 (xs (i + 1)) (xs (i + 2)) (xs (i + 3)) (xs (i + 4))
  exact l_case h hKN hi hL (by decide) dc_walk lk_L_27 vk_L_27 rfl lk_L_31 vk_L_31 rfl (d1 := 3) (d2 := 4) (by decide) (by decide) rfl (v := r) (m_P_walk e1) (m_M_walk e2) (cont _ _ (relF_s hR (rel_up h1 hj) s1))
theorem dc_day : cDb 392 2 32 35 (1957) = true := by decide +kernel
set_option maxHeartbeats 1000000 in
theorem cs_day {b L : Nat} {xs : Nat → Int32} {Zc Zm : Sy} {K N : Nat} {Γ : Nat → List (Nat × Value) → List Value → St → St → Prop} {σ τ : St} {i j : Nat} (h : IsL b L xs Zc Zm K N Γ) (hKN : K ≤ 600000 ∧ N ≤ 7302249) (hi : i + 8 ≤ L) (hL : L ≤ 4096) (hR : RelF j σ τ) (hj : j < 512) (cont : ∀ σ' τ', RelF (j + 1) σ' τ' → Γ 2377 (lsL b Zc Zm (nI i)) [] σ' τ') : Γ 392 (lsL b Zc Zm (nI i)) [] σ τ := by
  obtain ⟨r, e1, e2⟩ := op_day hR.1 (xs (i + 1)) (xs (i + 2))
  exact l_case h hKN hi hL (by decide) dc_day lk_L_32 vk_L_32 rfl lk_L_35 vk_L_35 rfl (d1 := 3) (d2 := 3) (by decide) (by decide) rfl (v := r) (m_P_day e1) (m_M_day e2) (cont _ _ (relF_up hR hj))
theorem dc_meet : cDb 425 3 36 40 (1914) = true := by decide +kernel
set_option maxHeartbeats 1000000 in
theorem cs_meet {b L : Nat} {xs : Nat → Int32} {Zc Zm : Sy} {K N : Nat} {Γ : Nat → List (Nat × Value) → List Value → St → St → Prop} {σ τ : St} {i j : Nat} (h : IsL b L xs Zc Zm K N Γ) (hKN : K ≤ 600000 ∧ N ≤ 7302249) (hi : i + 8 ≤ L) (hL : L ≤ 4096) (hR : RelF j σ τ) (hj : j < 512) (cont : ∀ σ' τ', RelF (j + 1) σ' τ' → Γ 2377 (lsL b Zc Zm (nI i)) [] σ' τ') : Γ 425 (lsL b Zc Zm (nI i)) [] σ τ := by
  obtain ⟨r, e1, e2⟩ := op_meet hR.1 (xs (i + 1)) (xs (i + 2)) (xs (i + 3))
  exact l_case h hKN hi hL (by decide) dc_meet lk_L_36 vk_L_36 rfl lk_L_40 vk_L_40 rfl (d1 := 3) (d2 := 3) (by decide) (by decide) rfl (v := r) (m_P_meet e1) (m_M_meet e2) (cont _ _ (relF_up hR hj))
theorem dc_pack : cDb 468 3 41 44 (1871) = true := by decide +kernel
set_option maxHeartbeats 1000000 in
theorem cs_pack {b L : Nat} {xs : Nat → Int32} {Zc Zm : Sy} {K N : Nat} {Γ : Nat → List (Nat × Value) → List Value → St → St → Prop} {σ τ : St} {i j : Nat} (h : IsL b L xs Zc Zm K N Γ) (hKN : K ≤ 600000 ∧ N ≤ 7302249) (hi : i + 8 ≤ L) (hL : L ≤ 4096) (hR : RelF j σ τ) (hj : j < 512) (cont : ∀ σ' τ', RelF (j + 1) σ' τ' → Γ 2377 (lsL b Zc Zm (nI i)) [] σ' τ') : Γ 468 (lsL b Zc Zm (nI i)) [] σ τ := by
  obtain ⟨r, σ', τ', e1, e2, h1, s1⟩ := op_pack hR.1 (xs (i + 1)) (xs (i + 2)) (xs (i + 3))
  exact l_case h hKN hi hL (by decide) dc_pack lk_L_41 vk_L_41 rfl lk_L_44 vk_L_44 rfl (d1 := 3) (d2 := 3) (by decide) (by decide) rfl (v := r) (m_P_pack e1) (m_M_pack e2) (cont _ _ (relF_s hR (rel_up h1 hj) s1))
theorem dc_entry : cDb 511 6 45 49 (1796) = true := by decide +kernel
set_option maxHeartbeats 1000000 in
theorem cs_entry {b L : Nat} {xs : Nat → Int32} {Zc Zm : Sy} {K N : Nat} {Γ : Nat → List (Nat × Value) → List Value → St → St → Prop} {σ τ : St} {i j : Nat} (h : IsL b L xs Zc Zm K N Γ) (hKN : K ≤ 600000 ∧ N ≤ 7302249) (hi : i + 8 ≤ L) (hL : L ≤ 4096) (hR : RelF j σ τ) (hj : j < 512) (cont : ∀ σ' τ', RelF (j + 1) σ' τ' → Γ 2377 (lsL b Zc Zm (nI i)) [] σ' τ') : Γ 511 (lsL b Zc Zm (nI i)) [] σ τ := by
  obtain ⟨r, σ', τ', e1, e2, h1, s1⟩ := op_entry hR.1 (xs (i + 1)) (xs (i + 2)) (xs (i + 3)) (xs (i + 4)) (xs (i + 5)) (xs (i + 6))
  exact l_case h hKN hi hL (by decide) dc_entry lk_L_45 vk_L_45 rfl lk_L_49 vk_L_49 rfl (d1 := 4) (d2 := 4) (by decide) (by decide) rfl (v := r) (m_P_entry e1) (m_M_entry e2) (cont _ _ (relF_s hR (rel_up h1 hj) s1))
theorem dc_entries : cDb 586 5 50 54 (1733) = true := by decide +kernel
set_option maxHeartbeats 1000000 in
theorem cs_entries {b L : Nat} {xs : Nat → Int32} {Zc Zm : Sy} {K N : Nat} {Γ : Nat → List (Nat × Value) → List Value → St → St → Prop} {σ τ : St} {i j : Nat} (h : IsL b L xs Zc Zm K N Γ) (hKN : K ≤ 600000 ∧ N ≤ 7302249) (hi : i + 8 ≤ L) (hL : L ≤ 4096) (hR : RelF j σ τ) (hj : j < 512) (cont : ∀ σ' τ', RelF (j + 1) σ' τ' → Γ 2377 (lsL b Zc Zm (nI i)) [] σ' τ') : Γ 586 (lsL b Zc Zm (nI i)) [] σ τ := by
  obtain ⟨r, σ', τ', e1, e2, h1, s1⟩ := op_entries hR.1 (xs (i + 1)) (xs (i + 2)) (xs (i + 3)) (xs (i + 4)) (xs (i + 5))
  exact l_case h hKN hi hL (by decide) dc_entries lk_L_50 vk_L_50 rfl lk_L_54 vk_L_54 rfl (d1 := 5) (d2 := 4) (by decide) (by decide) rfl (v := r) (m_P_entries e1) (m_M_entries e2) (cont _ _ (relF_s hR (rel_up h1 hj) s1))
theorem dc_told : cDb 649 2 55 58 (1700) = true := by decide +kernel
set_option maxHeartbeats 1000000 in
theorem cs_told {b L : Nat} {xs : Nat → Int32} {Zc Zm : Sy} {K N : Nat} {Γ : Nat → List (Nat × Value) → List Value → St → St → Prop} {σ τ : St} {i j : Nat} (h : IsL b L xs Zc Zm K N Γ) (hKN : K ≤ 600000 ∧ N ≤ 7302249) (hi : i + 8 ≤ L) (hL : L ≤ 4096) (hR : RelF j σ τ) (hj : j < 512) (cont : ∀ σ' τ', RelF (j + 1) σ' τ' → Γ 2377 (lsL b Zc Zm (nI i)) [] σ' τ') : Γ 649 (lsL b Zc Zm (nI i)) [] σ τ := by
  obtain ⟨r, e1, e2⟩ := op_told hR.1 (xs (i + 1)) (xs (i + 2))
  exact l_case h hKN hi hL (by decide) dc_told lk_L_55 vk_L_55 rfl lk_L_58 vk_L_58 rfl (d1 := 2) (d2 := 2) (by decide) (by decide) rfl (v := r) (m_P_told e1) (m_M_told e2) (cont _ _ (relF_up hR hj))
theorem dc_held : cDb 682 3 59 62 (1657) = true := by decide +kernel
set_option maxHeartbeats 1000000 in
theorem cs_held {b L : Nat} {xs : Nat → Int32} {Zc Zm : Sy} {K N : Nat} {Γ : Nat → List (Nat × Value) → List Value → St → St → Prop} {σ τ : St} {i j : Nat} (h : IsL b L xs Zc Zm K N Γ) (hKN : K ≤ 600000 ∧ N ≤ 7302249) (hi : i + 8 ≤ L) (hL : L ≤ 4096) (hR : RelF j σ τ) (hj : j < 512) (cont : ∀ σ' τ', RelF (j + 1) σ' τ' → Γ 2377 (lsL b Zc Zm (nI i)) [] σ' τ') : Γ 682 (lsL b Zc Zm (nI i)) [] σ τ := by
  obtain ⟨r, e1, e2⟩ := op_held hR.1 (xs (i + 1)) (xs (i + 2)) (xs (i + 3))
  exact l_case h hKN hi hL (by decide) dc_held lk_L_59 vk_L_59 rfl lk_L_62 vk_L_62 rfl (d1 := 3) (d2 := 3) (by decide) (by decide) rfl (v := r) (m_P_held e1) (m_M_held e2) (cont _ _ (relF_up hR hj))
theorem dc_known : cDb 725 2 63 66 (1624) = true := by decide +kernel
set_option maxHeartbeats 1000000 in
theorem cs_known {b L : Nat} {xs : Nat → Int32} {Zc Zm : Sy} {K N : Nat} {Γ : Nat → List (Nat × Value) → List Value → St → St → Prop} {σ τ : St} {i j : Nat} (h : IsL b L xs Zc Zm K N Γ) (hKN : K ≤ 600000 ∧ N ≤ 7302249) (hi : i + 8 ≤ L) (hL : L ≤ 4096) (hR : RelF j σ τ) (hj : j < 512) (cont : ∀ σ' τ', RelF (j + 1) σ' τ' → Γ 2377 (lsL b Zc Zm (nI i)) [] σ' τ') : Γ 725 (lsL b Zc Zm (nI i)) [] σ τ := by
  obtain ⟨r, σ', τ', e1, e2, h1, n1, w1, o1⟩ := op_known hR.1 hR.2.1 (xs (i + 1)) (xs (i + 2))
  exact l_case h hKN hi hL (by decide) dc_known lk_L_63 vk_L_63 rfl lk_L_66 vk_L_66 rfl (d1 := 5) (d2 := 5) (by decide) (by decide) rfl (v := r) (m_P_known e1) (m_M_known e2) (cont _ _ (⟨rel_up h1 hj, n1, cW_s hR.2.2.1 w1, cO_s hR.1 hR.2.2.2 o1⟩))
theorem dc_as : cDb 758 4 67 70 (1571) = true := by decide +kernel
set_option maxHeartbeats 1000000 in
theorem cs_as {b L : Nat} {xs : Nat → Int32} {Zc Zm : Sy} {K N : Nat} {Γ : Nat → List (Nat × Value) → List Value → St → St → Prop} {σ τ : St} {i j : Nat} (h : IsL b L xs Zc Zm K N Γ) (hKN : K ≤ 600000 ∧ N ≤ 7302249) (hi : i + 8 ≤ L) (hL : L ≤ 4096) (hR : RelF j σ τ) (hj : j < 512) (cont : ∀ σ' τ', RelF (j + 1) σ' τ' → Γ 2377 (lsL b Zc Zm (nI i)) [] σ' τ') : Γ 758 (lsL b Zc Zm (nI i)) [] σ τ := by
  obtain ⟨r, σ', τ', e1, e2, h1, n1, w1, o1⟩ := op_as hR.1 hR.2.1 (xs (i + 1)) (xs (i + 2)) (xs (i + 3)) (xs (i + 4))
  exact l_case h hKN hi hL (by decide) dc_as lk_L_67 vk_L_67 rfl lk_L_70 vk_L_70 rfl (d1 := 5) (d2 := 5) (by decide) (by decide) rfl (v := r) (m_P_as e1) (m_M_as e2) (cont _ _ (⟨rel_up h1 hj, n1, cW_s hR.2.2.1 w1, cO_s hR.1 hR.2.2.2 o1⟩))
theorem dc_knows : cDb 811 2 71 74 (1538) = true := by decide +kernel
set_option maxHeartbeats 1000000 in
theorem cs_knows {b L : Nat} {xs : Nat → Int32} {Zc Zm : Sy} {K N : Nat} {Γ : Nat → List (Nat × Value) → List Value → St → St → Prop} {σ τ : St} {i j : Nat} (h : IsL b L xs Zc Zm K N Γ) (hKN : K ≤ 600000 ∧ N ≤ 7302249) (hi : i + 8 ≤ L) (hL : L ≤ 4096) (hR : RelF j σ τ) (hj : j < 512) (cont : ∀ σ' τ', RelF (j + 1) σ' τ' → Γ 2377 (lsL b Zc Zm (nI i)) [] σ' τ') : Γ 811 (lsL b Zc Zm (nI i)) [] σ τ := by
  obtain ⟨r, σ', τ', e1, e2, h1, n1, w1, o1⟩ := op_knows hR.1 hR.2.1 (xs (i + 1)) (xs (i + 2))
  exact l_case h hKN hi hL (by decide) dc_knows lk_L_71 vk_L_71 rfl lk_L_74 vk_L_74 rfl (d1 := 5) (d2 := 5) (by decide) (by decide) rfl (v := r) (m_P_knows e1) (m_M_knows e2) (cont _ _ (⟨rel_up h1 hj, n1, cW_s hR.2.2.1 w1, cO_s hR.1 hR.2.2.2 o1⟩))
theorem dc_text : cDb 844 7 75 79 (1451) = true := by decide +kernel
set_option maxHeartbeats 1000000 in
theorem cs_text {b L : Nat} {xs : Nat → Int32} {Zc Zm : Sy} {K N : Nat} {Γ : Nat → List (Nat × Value) → List Value → St → St → Prop} {σ τ : St} {i j : Nat} (h : IsL b L xs Zc Zm K N Γ) (hKN : K ≤ 600000 ∧ N ≤ 7302249) (hi : i + 8 ≤ L) (hL : L ≤ 4096) (hR : RelF j σ τ) (hj : j < 512) (cont : ∀ σ' τ', RelF (j + 1) σ' τ' → Γ 2377 (lsL b Zc Zm (nI i)) [] σ' τ') : Γ 844 (lsL b Zc Zm (nI i)) [] σ τ := by
  obtain ⟨r, σ', τ', e1, e2, h1, s1⟩ := op_text hR.1 (xs (i + 1)) (xs (i + 2)) (xs (i + 3)) (xs (i + 4)) (xs (i + 5)) (xs (i + 6)) (xs (i + 7))
  exact l_case h hKN hi hL (by decide) dc_text lk_L_75 vk_L_75 rfl lk_L_79 vk_L_79 rfl (d1 := 4) (d2 := 4) (by decide) (by decide) rfl (v := r) (m_P_text e1) (m_M_text e2) (cont _ _ (relF_s hR (rel_up h1 hj) s1))
theorem dc_force : cDb 931 3 80 83 (1408) = true := by decide +kernel
set_option maxHeartbeats 1000000 in
theorem cs_force {b L : Nat} {xs : Nat → Int32} {Zc Zm : Sy} {K N : Nat} {Γ : Nat → List (Nat × Value) → List Value → St → St → Prop} {σ τ : St} {i j : Nat} (h : IsL b L xs Zc Zm K N Γ) (hKN : K ≤ 600000 ∧ N ≤ 7302249) (hi : i + 8 ≤ L) (hL : L ≤ 4096) (hR : RelF j σ τ) (hj : j < 512) (cont : ∀ σ' τ', RelF (j + 1) σ' τ' → Γ 2377 (lsL b Zc Zm (nI i)) [] σ' τ') : Γ 931 (lsL b Zc Zm (nI i)) [] σ τ := by
  obtain ⟨r, e1, e2⟩ := op_force hR.1 (xs (i + 1)) (xs (i + 2)) (xs (i + 3))
  exact l_case h hKN hi hL (by decide) dc_force lk_L_80 vk_L_80 rfl lk_L_83 vk_L_83 rfl (d1 := 4) (d2 := 5) (by decide) (by decide) rfl (v := r) (m_P_force e1) (m_M_force e2) (cont _ _ (relF_up hR hj))
theorem dc_bar : cDb 974 3 84 87 (1365) = true := by decide +kernel
set_option maxHeartbeats 1000000 in
theorem cs_bar {b L : Nat} {xs : Nat → Int32} {Zc Zm : Sy} {K N : Nat} {Γ : Nat → List (Nat × Value) → List Value → St → St → Prop} {σ τ : St} {i j : Nat} (h : IsL b L xs Zc Zm K N Γ) (hKN : K ≤ 600000 ∧ N ≤ 7302249) (hi : i + 8 ≤ L) (hL : L ≤ 4096) (hR : RelF j σ τ) (hj : j < 512) (cont : ∀ σ' τ', RelF (j + 1) σ' τ' → Γ 2377 (lsL b Zc Zm (nI i)) [] σ' τ') : Γ 974 (lsL b Zc Zm (nI i)) [] σ τ := by
  obtain ⟨r, e1, e2⟩ := op_bar hR.1 (xs (i + 1)) (xs (i + 2)) (xs (i + 3))
  exact l_case h hKN hi hL (by decide) dc_bar lk_L_84 vk_L_84 rfl lk_L_87 vk_L_87 rfl (d1 := 4) (d2 := 5) (by decide) (by decide) rfl (v := r) (m_P_bar e1) (m_M_bar e2) (cont _ _ (relF_up hR hj))
theorem dc_why : cDb 1017 4 88 91 (1312) = true := by decide +kernel
set_option maxHeartbeats 1000000 in
theorem cs_why {b L : Nat} {xs : Nat → Int32} {Zc Zm : Sy} {K N : Nat} {Γ : Nat → List (Nat × Value) → List Value → St → St → Prop} {σ τ : St} {i j : Nat} (h : IsL b L xs Zc Zm K N Γ) (hKN : K ≤ 600000 ∧ N ≤ 7302249) (hi : i + 8 ≤ L) (hL : L ≤ 4096) (hR : RelF j σ τ) (hj : j < 512) (cont : ∀ σ' τ', RelF (j + 1) σ' τ' → Γ 2377 (lsL b Zc Zm (nI i)) [] σ' τ') : Γ 1017 (lsL b Zc Zm (nI i)) [] σ τ := by
  obtain ⟨r, e1, e2⟩ := op_why hR.1 (xs (i + 1)) (xs (i + 2)) (xs (i + 3)) (xs (i + 4))
  exact l_case h hKN hi hL (by decide) dc_why lk_L_88 vk_L_88 rfl lk_L_91 vk_L_91 rfl (d1 := 3) (d2 := 4) (by decide) (by decide) rfl (v := r) (m_P_why e1) (m_M_why e2) (cont _ _ (relF_up hR hj))
theorem dc_quarrel : cDb 1070 4 92 95 (1259) = true := by decide +kernel
set_option maxHeartbeats 1000000 in
theorem cs_quarrel {b L : Nat} {xs : Nat → Int32} {Zc Zm : Sy} {K N : Nat} {Γ : Nat → List (Nat × Value) → List Value → St → St → Prop} {σ τ : St} {i j : Nat} (h : IsL b L xs Zc Zm K N Γ) (hKN : K ≤ 600000 ∧ N ≤ 7302249) (hi : i + 8 ≤ L) (hL : L ≤ 4096) (hR : RelF j σ τ) (hj : j < 512) (cont : ∀ σ' τ', RelF (j + 1) σ' τ' → Γ 2377 (lsL b Zc Zm (nI i)) [] σ' τ') : Γ 1070 (lsL b Zc Zm (nI i)) [] σ τ := by
  obtain ⟨r, e1, e2⟩ := op_quarrel hR.1 (xs (i + 1)) (xs (i + 2)) (xs (i + 3)) (xs (i + 4))
  exact l_case h hKN hi hL (by decide) dc_quarrel lk_L_92 vk_L_92 rfl lk_L_95 vk_L_95 rfl (d1 := 3) (d2 := 4) (by decide) (by decide) rfl (v := r) (m_P_quarrel e1) (m_M_quarrel e2) (cont _ _ (relF_up hR hj))
theorem dc_licence : cDb 1123 4 96 99 (1206) = true := by decide +kernel
set_option maxHeartbeats 1000000 in
theorem cs_licence {b L : Nat} {xs : Nat → Int32} {Zc Zm : Sy} {K N : Nat} {Γ : Nat → List (Nat × Value) → List Value → St → St → Prop} {σ τ : St} {i j : Nat} (h : IsL b L xs Zc Zm K N Γ) (hKN : K ≤ 600000 ∧ N ≤ 7302249) (hi : i + 8 ≤ L) (hL : L ≤ 4096) (hR : RelF j σ τ) (hj : j < 512) (cont : ∀ σ' τ', RelF (j + 1) σ' τ' → Γ 2377 (lsL b Zc Zm (nI i)) [] σ' τ') : Γ 1123 (lsL b Zc Zm (nI i)) [] σ τ := by
  obtain ⟨r, σ', τ', e1, e2, h1, s1⟩ := op_licence hR.1 (xs (i + 1)) (xs (i + 2)) (xs (i + 3)) (xs (i + 4))
  exact l_case h hKN hi hL (by decide) dc_licence lk_L_96 vk_L_96 rfl lk_L_99 vk_L_99 rfl (d1 := 3) (d2 := 4) (by decide) (by decide) rfl (v := r) (m_P_licence e1) (m_M_licence e2) (cont _ _ (relF_s hR (rel_up h1 hj) s1))
theorem dc_unallowed : cDb 1176 1 100 103 (1183) = true := by decide +kernel
set_option maxHeartbeats 1000000 in
theorem cs_unallowed {b L : Nat} {xs : Nat → Int32} {Zc Zm : Sy} {K N : Nat} {Γ : Nat → List (Nat × Value) → List Value → St → St → Prop} {σ τ : St} {i j : Nat} (h : IsL b L xs Zc Zm K N Γ) (hKN : K ≤ 600000 ∧ N ≤ 7302249) (hi : i + 8 ≤ L) (hL : L ≤ 4096) (hR : RelF j σ τ) (hj : j < 512) (cont : ∀ σ' τ', RelF (j + 1) σ' τ' → Γ 2377 (lsL b Zc Zm (nI i)) [] σ' τ') : Γ 1176 (lsL b Zc Zm (nI i)) [] σ τ := by
  obtain ⟨r, e1, e2⟩ := op_unallowed hR.1 (xs (i + 1))
  exact l_case h hKN hi hL (by decide) dc_unallowed lk_L_100 vk_L_100 rfl lk_L_103 vk_L_103 rfl (d1 := 5) (d2 := 6) (by decide) (by decide) rfl (v := r) (m_P_unallowed e1) (m_M_unallowed e2) (cont _ _ (relF_up hR hj))
theorem dc_door : cDb 1199 5 104 107 (1120) = true := by decide +kernel
set_option maxHeartbeats 1000000 in
theorem cs_door {b L : Nat} {xs : Nat → Int32} {Zc Zm : Sy} {K N : Nat} {Γ : Nat → List (Nat × Value) → List Value → St → St → Prop} {σ τ : St} {i j : Nat} (h : IsL b L xs Zc Zm K N Γ) (hKN : K ≤ 600000 ∧ N ≤ 7302249) (hi : i + 8 ≤ L) (hL : L ≤ 4096) (hR : RelF j σ τ) (hj : j < 512) (cont : ∀ σ' τ', RelF (j + 1) σ' τ' → Γ 2377 (lsL b Zc Zm (nI i)) [] σ' τ') : Γ 1199 (lsL b Zc Zm (nI i)) [] σ τ := by
  obtain ⟨r, σ', τ', e1, e2, h1, s1⟩ := op_door hR.1 (xs (i + 1)) (xs (i + 2)) (xs (i + 3)) (xs (i + 4)) (xs (i + 5))
  exact l_case h hKN hi hL (by decide) dc_door lk_L_104 vk_L_104 rfl lk_L_107 vk_L_107 rfl (d1 := 3) (d2 := 3) (by decide) (by decide) rfl (v := r) (m_P_door e1) (m_M_door e2) (cont _ _ (relF_s hR (rel_up h1 hj) s1))
theorem dc_due : cDb 1262 2 108 111 (1087) = true := by decide +kernel
set_option maxHeartbeats 1000000 in
theorem cs_due {b L : Nat} {xs : Nat → Int32} {Zc Zm : Sy} {K N : Nat} {Γ : Nat → List (Nat × Value) → List Value → St → St → Prop} {σ τ : St} {i j : Nat} (h : IsL b L xs Zc Zm K N Γ) (hKN : K ≤ 600000 ∧ N ≤ 7302249) (hi : i + 8 ≤ L) (hL : L ≤ 4096) (hR : RelF j σ τ) (hj : j < 512) (cont : ∀ σ' τ', RelF (j + 1) σ' τ' → Γ 2377 (lsL b Zc Zm (nI i)) [] σ' τ') : Γ 1262 (lsL b Zc Zm (nI i)) [] σ τ := by
  obtain ⟨r, e1, e2⟩ := op_due hR.1 (xs (i + 1)) (xs (i + 2))
  exact l_case h hKN hi hL (by decide) dc_due lk_L_108 vk_L_108 rfl lk_L_111 vk_L_111 rfl (d1 := 5) (d2 := 6) (by decide) (by decide) rfl (v := r) (m_P_due e1) (m_M_due e2) (cont _ _ (relF_up hR hj))
theorem dc_paid : cDb 1295 3 112 115 (1044) = true := by decide +kernel
set_option maxHeartbeats 1000000 in
theorem cs_paid {b L : Nat} {xs : Nat → Int32} {Zc Zm : Sy} {K N : Nat} {Γ : Nat → List (Nat × Value) → List Value → St → St → Prop} {σ τ : St} {i j : Nat} (h : IsL b L xs Zc Zm K N Γ) (hKN : K ≤ 600000 ∧ N ≤ 7302249) (hi : i + 8 ≤ L) (hL : L ≤ 4096) (hR : RelF j σ τ) (hj : j < 512) (cont : ∀ σ' τ', RelF (j + 1) σ' τ' → Γ 2377 (lsL b Zc Zm (nI i)) [] σ' τ') : Γ 1295 (lsL b Zc Zm (nI i)) [] σ τ := by
  obtain ⟨r, σ', τ', e1, e2, h1, s1⟩ := op_paid hR.1 (xs (i + 1)) (xs (i + 2)) (xs (i + 3))
  exact l_case h hKN hi hL (by decide) dc_paid lk_L_112 vk_L_112 rfl lk_L_115 vk_L_115 rfl (d1 := 6) (d2 := 7) (by decide) (by decide) rfl (v := r) (m_P_paid e1) (m_M_paid e2) (cont _ _ (relF_s hR (rel_up h1 hj) s1))
theorem dc_dead : cDb 1338 2 116 119 (1011) = true := by decide +kernel
set_option maxHeartbeats 1000000 in
theorem cs_dead {b L : Nat} {xs : Nat → Int32} {Zc Zm : Sy} {K N : Nat} {Γ : Nat → List (Nat × Value) → List Value → St → St → Prop} {σ τ : St} {i j : Nat} (h : IsL b L xs Zc Zm K N Γ) (hKN : K ≤ 600000 ∧ N ≤ 7302249) (hi : i + 8 ≤ L) (hL : L ≤ 4096) (hR : RelF j σ τ) (hj : j < 512) (cont : ∀ σ' τ', RelF (j + 1) σ' τ' → Γ 2377 (lsL b Zc Zm (nI i)) [] σ' τ') : Γ 1338 (lsL b Zc Zm (nI i)) [] σ τ := by
  obtain ⟨r, σ', τ', e1, e2, h1, s1⟩ := op_dead hR.1 (xs (i + 1)) (xs (i + 2))
  exact l_case h hKN hi hL (by decide) dc_dead lk_L_116 vk_L_116 rfl lk_L_119 vk_L_119 rfl (d1 := 6) (d2 := 7) (by decide) (by decide) rfl (v := r) (m_P_dead e1) (m_M_dead e2) (cont _ _ (relF_s hR (rel_up h1 hj) s1))
theorem dc_send : cDb 1371 3 120 123 (968) = true := by decide +kernel
set_option maxHeartbeats 1000000 in
theorem cs_send {b L : Nat} {xs : Nat → Int32} {Zc Zm : Sy} {K N : Nat} {Γ : Nat → List (Nat × Value) → List Value → St → St → Prop} {σ τ : St} {i j : Nat} (h : IsL b L xs Zc Zm K N Γ) (hKN : K ≤ 600000 ∧ N ≤ 7302249) (hi : i + 8 ≤ L) (hL : L ≤ 4096) (hR : RelF j σ τ) (hj : j < 512) (cont : ∀ σ' τ', RelF (j + 1) σ' τ' → Γ 2377 (lsL b Zc Zm (nI i)) [] σ' τ') : Γ 1371 (lsL b Zc Zm (nI i)) [] σ τ := by
  obtain ⟨r, σ', τ', e1, e2, h1, s1⟩ := op_send hR.1 hj (xs (i + 1)) (xs (i + 2)) (xs (i + 3))
  exact l_case h hKN hi hL (by decide) dc_send lk_L_120 vk_L_120 rfl lk_L_123 vk_L_123 rfl (d1 := 3) (d2 := 3) (by decide) (by decide) rfl (v := r) (m_P_send e1) (m_M_send e2) (cont _ _ (relF_s hR h1 s1))
