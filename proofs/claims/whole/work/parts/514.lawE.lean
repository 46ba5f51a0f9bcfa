theorem dc_credit : cDbL 1414 2 124 128 (934) = true := by decide +kernel
set_option maxHeartbeats 1000000 in
theorem cs_credit {b L : Nat} {xs : Nat → Int32} {Zc Zm : Sy} {K N : Nat} {Γ : Nat → List (Nat × Value) → List Value → St → St → Prop} {σ τ : St} {i j : Nat} (h : IsL b L xs Zc Zm K N Γ) (hKN : K ≤ 600000 ∧ N ≤ 7302249) (hi : i + 8 ≤ L) (hL : L ≤ 4096) (hR : RelF j σ τ) (hj : j < 512) (cont : ∀ σ' τ', RelF (j + 1) σ' τ' → Γ 2377 (lsL b Zc Zm (nI i)) [] σ' τ') : Γ 1414 (lsL b Zc Zm (nI i)) [] σ τ := by
  obtain ⟨r, e1, e2⟩ := op_credit hR.1 (xs (i + 1)) (xs (i + 2))
  exact l_caseL h hKN hi hL (by decide) dc_credit lk_L_124 vk_L_124 rfl lk_L_128 vk_L_128 rfl (d1 := 4) (d2 := 3) (by decide) (by decide) rfl (v := r) (m_P_credit e1) (m_M_credit e2) (cont _ _ (relF_up hR hj))
theorem dc_share : cDb 1448 4 129 132 (881) = true := by decide +kernel
set_option maxHeartbeats 1000000 in
theorem cs_share {b L : Nat} {xs : Nat → Int32} {Zc Zm : Sy} {K N : Nat} {Γ : Nat → List (Nat × Value) → List Value → St → St → Prop} {σ τ : St} {i j : Nat} (h : IsL b L xs Zc Zm K N Γ) (hKN : K ≤ 600000 ∧ N ≤ 7302249) (hi : i + 8 ≤ L) (hL : L ≤ 4096) (hR : RelF j σ τ) (hj : j < 512) (cont : ∀ σ' τ', RelF (j + 1) σ' τ' → Γ 2377 (lsL b Zc Zm (nI i)) [] σ' τ') : Γ 1448 (lsL b Zc Zm (nI i)) [] σ τ := by
  obtain ⟨r, e1, e2⟩ := op_share hR.1 (xs (i + 1)) (xs (i + 2)) (xs (i + 3)) (xs (i + 4))
  exact l_case h hKN hi hL (by decide) dc_share lk_L_129 vk_L_129 rfl lk_L_132 vk_L_132 rfl (d1 := 4) (d2 := 4) (by decide) (by decide) rfl (v := r) (m_P_share e1) (m_M_share e2) (cont _ _ (relF_up hR hj))
theorem dc_owe : cDb 1501 3 133 136 (838) = true := by decide +kernel
set_option maxHeartbeats 1000000 in
theorem cs_owe {b L : Nat} {xs : Nat → Int32} {Zc Zm : Sy} {K N : Nat} {Γ : Nat → List (Nat × Value) → List Value → St → St → Prop} {σ τ : St} {i j : Nat} (h : IsL b L xs Zc Zm K N Γ) (hKN : K ≤ 600000 ∧ N ≤ 7302249) (hi : i + 8 ≤ L) (hL : L ≤ 4096) (hR : RelF j σ τ) (hj : j < 512) (cont : ∀ σ' τ', RelF (j + 1) σ' τ' → Γ 2377 (lsL b Zc Zm (nI i)) [] σ' τ') : Γ 1501 (lsL b Zc Zm (nI i)) [] σ τ := by
  obtain ⟨r, σ', τ', e1, e2, h1, s1⟩ := op_owe hR.1 (xs (i + 1)) (xs (i + 2)) (xs (i + 3))
  exact l_case h hKN hi hL (by decide) dc_owe lk_L_133 vk_L_133 rfl lk_L_136 vk_L_136 rfl (d1 := 3) (d2 := 3) (by decide) (by decide) rfl (v := r) (m_P_owe e1) (m_M_owe e2) (cont _ _ (relF_s hR (rel_up h1 hj) s1))
theorem dc_owes : cDb 1544 2 137 140 (805) = true := by decide +kernel
set_option maxHeartbeats 1000000 in
theorem cs_owes {b L : Nat} {xs : Nat → Int32} {Zc Zm : Sy} {K N : Nat} {Γ : Nat → List (Nat × Value) → List Value → St → St → Prop} {σ τ : St} {i j : Nat} (h : IsL b L xs Zc Zm K N Γ) (hKN : K ≤ 600000 ∧ N ≤ 7302249) (hi : i + 8 ≤ L) (hL : L ≤ 4096) (hR : RelF j σ τ) (hj : j < 512) (cont : ∀ σ' τ', RelF (j + 1) σ' τ' → Γ 2377 (lsL b Zc Zm (nI i)) [] σ' τ') : Γ 1544 (lsL b Zc Zm (nI i)) [] σ τ := by
  obtain ⟨r, e1, e2⟩ := op_owes hR.1 (xs (i + 1)) (xs (i + 2))
  exact l_case h hKN hi hL (by decide) dc_owes lk_L_137 vk_L_137 rfl lk_L_140 vk_L_140 rfl (d1 := 3) (d2 := 3) (by decide) (by decide) rfl (v := r) (m_P_owes e1) (m_M_owes e2) (cont _ _ (relF_up hR hj))
theorem dc_ring : cDb 1577 0 141 145 (792) = true := by decide +kernel
set_option maxHeartbeats 1000000 in
theorem cs_ring {b L : Nat} {xs : Nat → Int32} {Zc Zm : Sy} {K N : Nat} {Γ : Nat → List (Nat × Value) → List Value → St → St → Prop} {σ τ : St} {i j : Nat} (h : IsL b L xs Zc Zm K N Γ) (hKN : K ≤ 600000 ∧ N ≤ 7302249) (hi : i + 8 ≤ L) (hL : L ≤ 4096) (hR : RelF j σ τ) (hj : j < 512) (cont : ∀ σ' τ', RelF (j + 1) σ' τ' → Γ 2377 (lsL b Zc Zm (nI i)) [] σ' τ') : Γ 1577 (lsL b Zc Zm (nI i)) [] σ τ := by
  obtain ⟨r, σ', τ', e1, e2, h1, s1⟩ := op_ring hR.1 
  exact l_case h hKN hi hL (by decide) dc_ring lk_L_141 vk_L_141 rfl lk_L_145 vk_L_145 rfl (d1 := 10) (d2 := 4) (by decide) (by decide) rfl (v := r) (m_P_ring e1) (m_M_ring e2) (cont _ _ (relF_s hR (rel_up h1 hj) s1))
theorem dc_party : cDb 1590 3 146 149 (749) = true := by decide +kernel
set_option maxHeartbeats 1000000 in
theorem cs_party {b L : Nat} {xs : Nat → Int32} {Zc Zm : Sy} {K N : Nat} {Γ : Nat → List (Nat × Value) → List Value → St → St → Prop} {σ τ : St} {i j : Nat} (h : IsL b L xs Zc Zm K N Γ) (hKN : K ≤ 600000 ∧ N ≤ 7302249) (hi : i + 8 ≤ L) (hL : L ≤ 4096) (hR : RelF j σ τ) (hj : j < 512) (cont : ∀ σ' τ', RelF (j + 1) σ' τ' → Γ 2377 (lsL b Zc Zm (nI i)) [] σ' τ') : Γ 1590 (lsL b Zc Zm (nI i)) [] σ τ := by
  obtain ⟨r, σ', τ', e1, e2, h1, s1⟩ := op_party hR.1 (xs (i + 1)) (xs (i + 2)) (xs (i + 3))
  exact l_case h hKN hi hL (by decide) dc_party lk_L_146 vk_L_146 rfl lk_L_149 vk_L_149 rfl (d1 := 2) (d2 := 3) (by decide) (by decide) rfl (v := r) (m_P_party e1) (m_M_party e2) (cont _ _ (relF_s hR (rel_up h1 hj) s1))
theorem dc_pays : cDb 1633 2 150 153 (716) = true := by decide +kernel
set_option maxHeartbeats 1000000 in
theorem cs_pays {b L : Nat} {xs : Nat → Int32} {Zc Zm : Sy} {K N : Nat} {Γ : Nat → List (Nat × Value) → List Value → St → St → Prop} {σ τ : St} {i j : Nat} (h : IsL b L xs Zc Zm K N Γ) (hKN : K ≤ 600000 ∧ N ≤ 7302249) (hi : i + 8 ≤ L) (hL : L ≤ 4096) (hR : RelF j σ τ) (hj : j < 512) (cont : ∀ σ' τ', RelF (j + 1) σ' τ' → Γ 2377 (lsL b Zc Zm (nI i)) [] σ' τ') : Γ 1633 (lsL b Zc Zm (nI i)) [] σ τ := by
  obtain ⟨r, σ', τ', e1, e2, h1, s1, w1, o1⟩ := op_pays hR.1 hR.2.2.1 (xs (i + 1)) (xs (i + 2))
  exact l_case h hKN hi hL (by decide) dc_pays lk_L_150 vk_L_150 rfl lk_L_153 vk_L_153 rfl (d1 := 4) (d2 := 3) (by decide) (by decide) rfl (v := r) (m_P_pays e1) (m_M_pays e2) (cont _ _ (⟨rel_up h1 hj, cN_s hR.1 hR.2.1 s1, w1, cO_s hR.1 hR.2.2.2 o1⟩))
theorem dc_ruin : cDb 1666 0 154 157 (703) = true := by decide +kernel
set_option maxHeartbeats 1000000 in
theorem cs_ruin {b L : Nat} {xs : Nat → Int32} {Zc Zm : Sy} {K N : Nat} {Γ : Nat → List (Nat × Value) → List Value → St → St → Prop} {σ τ : St} {i j : Nat} (h : IsL b L xs Zc Zm K N Γ) (hKN : K ≤ 600000 ∧ N ≤ 7302249) (hi : i + 8 ≤ L) (hL : L ≤ 4096) (hR : RelF j σ τ) (hj : j < 512) (cont : ∀ σ' τ', RelF (j + 1) σ' τ' → Γ 2377 (lsL b Zc Zm (nI i)) [] σ' τ') : Γ 1666 (lsL b Zc Zm (nI i)) [] σ τ := by
  obtain ⟨r, σ', τ', e1, e2, h1, s1, w1, o1⟩ := op_ruin hR.1 hR.2.2.1 
  exact l_case h hKN hi hL (by decide) dc_ruin lk_L_154 vk_L_154 rfl lk_L_157 vk_L_157 rfl (d1 := 4) (d2 := 3) (by decide) (by decide) rfl (v := r) (m_P_ruin e1) (m_M_ruin e2) (cont _ _ (⟨rel_up h1 hj, cN_s hR.1 hR.2.1 s1, w1, cO_s hR.1 hR.2.2.2 o1⟩))
theorem dc_round : cDb 1679 4 158 161 (650) = true := by decide +kernel
set_option maxHeartbeats 1000000 in
theorem cs_round {b L : Nat} {xs : Nat → Int32} {Zc Zm : Sy} {K N : Nat} {Γ : Nat → List (Nat × Value) → List Value → St → St → Prop} {σ τ : St} {i j : Nat} (h : IsL b L xs Zc Zm K N Γ) (hKN : K ≤ 600000 ∧ N ≤ 7302249) (hi : i + 8 ≤ L) (hL : L ≤ 4096) (hR : RelF j σ τ) (hj : j < 512) (cont : ∀ σ' τ', RelF (j + 1) σ' τ' → Γ 2377 (lsL b Zc Zm (nI i)) [] σ' τ') : Γ 1679 (lsL b Zc Zm (nI i)) [] σ τ := by
  obtain ⟨r, σ', τ', e1, e2, h1, s1⟩ := op_round hR.1 (xs (i + 1)) (xs (i + 2)) (xs (i + 3)) (xs (i + 4))
  exact l_case h hKN hi hL (by decide) dc_round lk_L_158 vk_L_158 rfl lk_L_161 vk_L_161 rfl (d1 := 3) (d2 := 3) (by decide) (by decide) rfl (v := r) (m_P_round e1) (m_M_round e2) (cont _ _ (relF_s hR (rel_up h1 hj) s1))
theorem dc_right : cDb 1732 5 162 165 (587) = true := by decide +kernel
set_option maxHeartbeats 1000000 in
theorem cs_right {b L : Nat} {xs : Nat → Int32} {Zc Zm : Sy} {K N : Nat} {Γ : Nat → List (Nat × Value) → List Value → St → St → Prop} {σ τ : St} {i j : Nat} (h : IsL b L xs Zc Zm K N Γ) (hKN : K ≤ 600000 ∧ N ≤ 7302249) (hi : i + 8 ≤ L) (hL : L ≤ 4096) (hR : RelF j σ τ) (hj : j < 512) (cont : ∀ σ' τ', RelF (j + 1) σ' τ' → Γ 2377 (lsL b Zc Zm (nI i)) [] σ' τ') : Γ 1732 (lsL b Zc Zm (nI i)) [] σ τ := by
  obtain ⟨r, σ', τ', e1, e2, h1, s1⟩ := op_right hR.1 (xs (i + 1)) (xs (i + 2)) (xs (i + 3)) (xs (i + 4)) (xs (i + 5))
  exact l_case h hKN hi hL (by decide) dc_right lk_L_162 vk_L_162 rfl lk_L_165 vk_L_165 rfl (d1 := 3) (d2 := 4) (by decide) (by decide) rfl (v := r) (m_P_right e1) (m_M_right e2) (cont _ _ (relF_s hR (rel_up h1 hj) s1))
theorem dc_holder : cDb 1795 2 166 169 (554) = true := by decide +kernel
set_option maxHeartbeats 1000000 in
theorem cs_holder {b L : Nat} {xs : Nat → Int32} {Zc Zm : Sy} {K N : Nat} {Γ : Nat → List (Nat × Value) → List Value → St → St → Prop} {σ τ : St} {i j : Nat} (h : IsL b L xs Zc Zm K N Γ) (hKN : K ≤ 600000 ∧ N ≤ 7302249) (hi : i + 8 ≤ L) (hL : L ≤ 4096) (hR : RelF j σ τ) (hj : j < 512) (cont : ∀ σ' τ', RelF (j + 1) σ' τ' → Γ 2377 (lsL b Zc Zm (nI i)) [] σ' τ') : Γ 1795 (lsL b Zc Zm (nI i)) [] σ τ := by
  obtain ⟨r, e1, e2⟩ := op_holder hR.1 (xs (i + 1)) (xs (i + 2))
  exact l_case h hKN hi hL (by decide) dc_holder lk_L_166 vk_L_166 rfl lk_L_169 vk_L_169 rfl (d1 := 3) (d2 := 3) (by decide) (by decide) rfl (v := r) (m_P_holder e1) (m_M_holder e2) (cont _ _ (relF_up hR hj))
theorem dc_two : cDb 1828 1 170 173 (531) = true := by decide +kernel
set_option maxHeartbeats 1000000 in
theorem cs_two {b L : Nat} {xs : Nat → Int32} {Zc Zm : Sy} {K N : Nat} {Γ : Nat → List (Nat × Value) → List Value → St → St → Prop} {σ τ : St} {i j : Nat} (h : IsL b L xs Zc Zm K N Γ) (hKN : K ≤ 600000 ∧ N ≤ 7302249) (hi : i + 8 ≤ L) (hL : L ≤ 4096) (hR : RelF j σ τ) (hj : j < 512) (cont : ∀ σ' τ', RelF (j + 1) σ' τ' → Γ 2377 (lsL b Zc Zm (nI i)) [] σ' τ') : Γ 1828 (lsL b Zc Zm (nI i)) [] σ τ := by
  obtain ⟨r, e1, e2⟩ := op_two hR.1 (xs (i + 1))
  exact l_case h hKN hi hL (by decide) dc_two lk_L_170 vk_L_170 rfl lk_L_173 vk_L_173 rfl (d1 := 4) (d2 := 3) (by decide) (by decide) rfl (v := r) (m_P_two e1) (m_M_two e2) (cont _ _ (relF_up hR hj))
theorem dc_walked : cDb 1851 4 174 177 (478) = true := by decide +kernel
set_option maxHeartbeats 1000000 in
theorem cs_walked {b L : Nat} {xs : Nat → Int32} {Zc Zm : Sy} {K N : Nat} {Γ : Nat → List (Nat × Value) → List Value → St → St → Prop} {σ τ : St} {i j : Nat} (h : IsL b L xs Zc Zm K N Γ) (hKN : K ≤ 600000 ∧ N ≤ 7302249) (hi : i + 8 ≤ L) (hL : L ≤ 4096) (hR : RelF j σ τ) (hj : j < 512) (cont : ∀ σ' τ', RelF (j + 1) σ' τ' → Γ 2377 (lsL b Zc Zm (nI i)) [] σ' τ') : Γ 1851 (lsL b Zc Zm (nI i)) [] σ τ := by
  obtain ⟨r, e1, e2⟩ := op_walked hR.1 (xs (i + 1)) (xs (i + 2)) (xs (i + 3)) (xs (i + 4))
  exact l_case h hKN hi hL (by decide) dc_walked lk_L_174 vk_L_174 rfl lk_L_177 vk_L_177 rfl (d1 := 3) (d2 := 4) (by decide) (by decide) rfl (v := r) (m_P_walked e1) (m_M_walked e2) (cont _ _ (relF_up hR hj))
theorem dc_offer : cDb 1904 5 178 181 (415) = true := by decide +kernel
set_option maxHeartbeats 1000000 in
theorem cs_offer {b L : Nat} {xs : Nat → Int32} {Zc Zm : Sy} {K N : Nat} {Γ : Nat → List (Nat × Value) → List Value → St → St → Prop} {σ τ : St} {i j : Nat} (h : IsL b L xs Zc Zm K N Γ) (hKN : K ≤ 600000 ∧ N ≤ 7302249) (hi : i + 8 ≤ L) (hL : L ≤ 4096) (hR : RelF j σ τ) (hj : j < 512) (cont : ∀ σ' τ', RelF (j + 1) σ' τ' → Γ 2377 (lsL b Zc Zm (nI i)) [] σ' τ') : Γ 1904 (lsL b Zc Zm (nI i)) [] σ τ := by
  obtain ⟨r, σ', τ', e1, e2, h1, s1⟩ := op_offer hR.1 (xs (i + 1)) (xs (i + 2)) (xs (i + 3)) (xs (i + 4)) (xs (i + 5))
  exact l_case h hKN hi hL (by decide) dc_offer lk_L_178 vk_L_178 rfl lk_L_181 vk_L_181 rfl (d1 := 3) (d2 := 3) (by decide) (by decide) rfl (v := r) (m_P_offer e1) (m_M_offer e2) (cont _ _ (relF_s hR (rel_up h1 hj) s1))
theorem dc_best : cDb 1967 1 182 185 (392) = true := by decide +kernel
set_option maxHeartbeats 1000000 in
theorem cs_best {b L : Nat} {xs : Nat → Int32} {Zc Zm : Sy} {K N : Nat} {Γ : Nat → List (Nat × Value) → List Value → St → St → Prop} {σ τ : St} {i j : Nat} (h : IsL b L xs Zc Zm K N Γ) (hKN : K ≤ 600000 ∧ N ≤ 7302249) (hi : i + 8 ≤ L) (hL : L ≤ 4096) (hR : RelF j σ τ) (hj : j < 512) (cont : ∀ σ' τ', RelF (j + 1) σ' τ' → Γ 2377 (lsL b Zc Zm (nI i)) [] σ' τ') : Γ 1967 (lsL b Zc Zm (nI i)) [] σ τ := by
  obtain ⟨r, σ', e1, e2, h1, s1, w1, o1⟩ := op_best hR.1 hR.2.2.2 (xs (i + 1))
  exact l_case h hKN hi hL (by decide) dc_best lk_L_182 vk_L_182 rfl lk_L_185 vk_L_185 rfl (d1 := 3) (d2 := 3) (by decide) (by decide) rfl (v := r) (m_P_best e1) (m_M_best e2) (cont _ _ (⟨rel_up h1 hj, cN_s hR.1 hR.2.1 s1, cW_s hR.2.2.1 w1, o1⟩))
theorem dc_judge : cDb 1990 1 186 189 (369) = true := by decide +kernel
set_option maxHeartbeats 1000000 in
theorem cs_judge {b L : Nat} {xs : Nat → Int32} {Zc Zm : Sy} {K N : Nat} {Γ : Nat → List (Nat × Value) → List Value → St → St → Prop} {σ τ : St} {i j : Nat} (h : IsL b L xs Zc Zm K N Γ) (hKN : K ≤ 600000 ∧ N ≤ 7302249) (hi : i + 8 ≤ L) (hL : L ≤ 4096) (hR : RelF j σ τ) (hj : j < 512) (cont : ∀ σ' τ', RelF (j + 1) σ' τ' → Γ 2377 (lsL b Zc Zm (nI i)) [] σ' τ') : Γ 1990 (lsL b Zc Zm (nI i)) [] σ τ := by
  obtain ⟨r, σ', e1, e2, h1, s1⟩ := op_judge hR.1 (xs (i + 1))
  exact l_case h hKN hi hL (by decide) dc_judge lk_L_186 vk_L_186 rfl lk_L_189 vk_L_189 rfl (d1 := 2) (d2 := 3) (by decide) (by decide) rfl (v := r) (m_P_judge e1) (m_M_judge e2) (cont _ _ (relF_s hR (rel_up h1 hj) s1))
theorem dc_sheet : cDb 2013 3 190 193 (326) = true := by decide +kernel
set_option maxHeartbeats 1000000 in
theorem cs_sheet {b L : Nat} {xs : Nat → Int32} {Zc Zm : Sy} {K N : Nat} {Γ : Nat → List (Nat × Value) → List Value → St → St → Prop} {σ τ : St} {i j : Nat} (h : IsL b L xs Zc Zm K N Γ) (hKN : K ≤ 600000 ∧ N ≤ 7302249) (hi : i + 8 ≤ L) (hL : L ≤ 4096) (hR : RelF j σ τ) (hj : j < 512) (cont : ∀ σ' τ', RelF (j + 1) σ' τ' → Γ 2377 (lsL b Zc Zm (nI i)) [] σ' τ') : Γ 2013 (lsL b Zc Zm (nI i)) [] σ τ := by
  obtain ⟨r, σ', τ', e1, e2, h1, s1⟩ := op_sheet hR.1 (xs (i + 1)) (xs (i + 2)) (xs (i + 3))
  exact l_case h hKN hi hL (by decide) dc_sheet lk_L_190 vk_L_190 rfl lk_L_193 vk_L_193 rfl (d1 := 3) (d2 := 3) (by decide) (by decide) rfl (v := r) (m_P_sheet e1) (m_M_sheet e2) (cont _ _ (relF_s hR (rel_up h1 hj) s1))
theorem dc_lose : cDb 2056 1 194 197 (303) = true := by decide +kernel
set_option maxHeartbeats 1000000 in
theorem cs_lose {b L : Nat} {xs : Nat → Int32} {Zc Zm : Sy} {K N : Nat} {Γ : Nat → List (Nat × Value) → List Value → St → St → Prop} {σ τ : St} {i j : Nat} (h : IsL b L xs Zc Zm K N Γ) (hKN : K ≤ 600000 ∧ N ≤ 7302249) (hi : i + 8 ≤ L) (hL : L ≤ 4096) (hR : RelF j σ τ) (hj : j < 512) (cont : ∀ σ' τ', RelF (j + 1) σ' τ' → Γ 2377 (lsL b Zc Zm (nI i)) [] σ' τ') : Γ 2056 (lsL b Zc Zm (nI i)) [] σ τ := by
  obtain ⟨r, σ', τ', e1, e2, h1, s1⟩ := op_lose hR.1 (xs (i + 1))
  exact l_case h hKN hi hL (by decide) dc_lose lk_L_194 vk_L_194 rfl lk_L_197 vk_L_197 rfl (d1 := 3) (d2 := 3) (by decide) (by decide) rfl (v := r) (m_P_lose e1) (m_M_lose e2) (cont _ _ (relF_s hR (rel_up h1 hj) s1))
theorem dc_put : cDb 2079 3 198 201 (260) = true := by decide +kernel
set_option maxHeartbeats 1000000 in
theorem cs_put {b L : Nat} {xs : Nat → Int32} {Zc Zm : Sy} {K N : Nat} {Γ : Nat → List (Nat × Value) → List Value → St → St → Prop} {σ τ : St} {i j : Nat} (h : IsL b L xs Zc Zm K N Γ) (hKN : K ≤ 600000 ∧ N ≤ 7302249) (hi : i + 8 ≤ L) (hL : L ≤ 4096) (hR : RelF j σ τ) (hj : j < 512) (cont : ∀ σ' τ', RelF (j + 1) σ' τ' → Γ 2377 (lsL b Zc Zm (nI i)) [] σ' τ') : Γ 2079 (lsL b Zc Zm (nI i)) [] σ τ := by
  obtain ⟨r, σ', τ', e1, e2, h1, s1⟩ := op_put hR.1 (xs (i + 1)) (xs (i + 2)) (xs (i + 3))
  exact l_case h hKN hi hL (by decide) dc_put lk_L_198 vk_L_198 rfl lk_L_201 vk_L_201 rfl (d1 := 3) (d2 := 3) (by decide) (by decide) rfl (v := r) (m_P_put e1) (m_M_put e2) (cont _ _ (relF_s hR (rel_up h1 hj) s1))
theorem dc_cell : cDbL 2122 3 202 206 (216) = true := by decide +kernel
set_option maxHeartbeats 1000000 in
theorem cs_cell {b L : Nat} {xs : Nat → Int32} {Zc Zm : Sy} {K N : Nat} {Γ : Nat → List (Nat × Value) → List Value → St → St → Prop} {σ τ : St} {i j : Nat} (h : IsL b L xs Zc Zm K N Γ) (hKN : K ≤ 600000 ∧ N ≤ 7302249) (hi : i + 8 ≤ L) (hL : L ≤ 4096) (hR : RelF j σ τ) (hj : j < 512) (cont : ∀ σ' τ', RelF (j + 1) σ' τ' → Γ 2377 (lsL b Zc Zm (nI i)) [] σ' τ') : Γ 2122 (lsL b Zc Zm (nI i)) [] σ τ := by
  obtain ⟨r, σ', τ', e1, e2, h1, s1⟩ := op_cell hR.1 (xs (i + 1)) (xs (i + 2)) (xs (i + 3))
  exact l_caseL h hKN hi hL (by decide) dc_cell lk_L_202 vk_L_202 rfl lk_L_206 vk_L_206 rfl (d1 := 3) (d2 := 3) (by decide) (by decide) rfl (v := r) (m_P_cell e1) (m_M_cell e2) (cont _ _ (relF_s hR (rel_up h1 hj) s1))
theorem dc_copy : cDb 2166 5 207 210 (153) = true := by decide +kernel
set_option maxHeartbeats 1000000 in
theorem cs_copy {b L : Nat} {xs : Nat → Int32} {Zc Zm : Sy} {K N : Nat} {Γ : Nat → List (Nat × Value) → List Value → St → St → Prop} {σ τ : St} {i j : Nat} (h : IsL b L xs Zc Zm K N Γ) (hKN : K ≤ 600000 ∧ N ≤ 7302249) (hi : i + 8 ≤ L) (hL : L ≤ 4096) (hR : RelF j σ τ) (hj : j < 512) (cont : ∀ σ' τ', RelF (j + 1) σ' τ' → Γ 2377 (lsL b Zc Zm (nI i)) [] σ' τ') : Γ 2166 (lsL b Zc Zm (nI i)) [] σ τ := by
  obtain ⟨r, σ', τ', e1, e2, h1, s1⟩ := op_copy hR.1 (xs (i + 1)) (xs (i + 2)) (xs (i + 3)) (xs (i + 4)) (xs (i + 5))
  exact l_case h hKN hi hL (by decide) dc_copy lk_L_207 vk_L_207 rfl lk_L_210 vk_L_210 rfl (d1 := 3) (d2 := 3) (by decide) (by decide) rfl (v := r) (m_P_copy e1) (m_M_copy e2) (cont _ _ (relF_s hR (rel_up h1 hj) s1))
theorem dc_tell : cDb 2229 2 211 214 (120) = true := by decide +kernel
set_option maxHeartbeats 1000000 in
theorem cs_tell {b L : Nat} {xs : Nat → Int32} {Zc Zm : Sy} {K N : Nat} {Γ : Nat → List (Nat × Value) → List Value → St → St → Prop} {σ τ : St} {i j : Nat} (h : IsL b L xs Zc Zm K N Γ) (hKN : K ≤ 600000 ∧ N ≤ 7302249) (hi : i + 8 ≤ L) (hL : L ≤ 4096) (hR : RelF j σ τ) (hj : j < 512) (cont : ∀ σ' τ', RelF (j + 1) σ' τ' → Γ 2377 (lsL b Zc Zm (nI i)) [] σ' τ') : Γ 2229 (lsL b Zc Zm (nI i)) [] σ τ := by
  obtain ⟨r, σ', τ', e1, e2, h1, s1⟩ := op_tell hR.1 (xs (i + 1)) (xs (i + 2))
  exact l_case h hKN hi hL (by decide) dc_tell lk_L_211 vk_L_211 rfl lk_L_214 vk_L_214 rfl (d1 := 6) (d2 := 3) (by decide) (by decide) rfl (v := r) (m_P_tell e1) (m_M_tell e2) (cont _ _ (relF_s hR (rel_up h1 hj) s1))
theorem dc_show : cDb 2262 1 215 218 (97) = true := by decide +kernel
set_option maxHeartbeats 1000000 in
theorem cs_show {b L : Nat} {xs : Nat → Int32} {Zc Zm : Sy} {K N : Nat} {Γ : Nat → List (Nat × Value) → List Value → St → St → Prop} {σ τ : St} {i j : Nat} (h : IsL b L xs Zc Zm K N Γ) (hKN : K ≤ 600000 ∧ N ≤ 7302249) (hi : i + 8 ≤ L) (hL : L ≤ 4096) (hR : RelF j σ τ) (hj : j < 512) (cont : ∀ σ' τ', RelF (j + 1) σ' τ' → Γ 2377 (lsL b Zc Zm (nI i)) [] σ' τ') : Γ 2262 (lsL b Zc Zm (nI i)) [] σ τ := by
  obtain ⟨r, σ', τ', e1, e2, h1, s1⟩ := op_show hR.1 (xs (i + 1))
  exact l_case h hKN hi hL (by decide) dc_show lk_L_215 vk_L_215 rfl lk_L_218 vk_L_218 rfl (d1 := 3) (d2 := 3) (by decide) (by decide) rfl (v := r) (m_P_show e1) (m_M_show e2) (cont _ _ (relF_s hR (rel_up h1 hj) s1))
theorem dc_taken : cDb 2285 3 219 222 (54) = true := by decide +kernel
set_option maxHeartbeats 1000000 in
theorem cs_taken {b L : Nat} {xs : Nat → Int32} {Zc Zm : Sy} {K N : Nat} {Γ : Nat → List (Nat × Value) → List Value → St → St → Prop} {σ τ : St} {i j : Nat} (h : IsL b L xs Zc Zm K N Γ) (hKN : K ≤ 600000 ∧ N ≤ 7302249) (hi : i + 8 ≤ L) (hL : L ≤ 4096) (hR : RelF j σ τ) (hj : j < 512) (cont : ∀ σ' τ', RelF (j + 1) σ' τ' → Γ 2377 (lsL b Zc Zm (nI i)) [] σ' τ') : Γ 2285 (lsL b Zc Zm (nI i)) [] σ τ := by
  obtain ⟨r, σ', τ', e1, e2, h1, s1⟩ := op_taken hR.1 (xs (i + 1)) (xs (i + 2)) (xs (i + 3))
  exact l_case h hKN hi hL (by decide) dc_taken lk_L_219 vk_L_219 rfl lk_L_222 vk_L_222 rfl (d1 := 4) (d2 := 3) (by decide) (by decide) rfl (v := r) (m_P_taken e1) (m_M_taken e2) (cont _ _ (relF_s hR (rel_up h1 hj) s1))
theorem dc_trace : cDb 2328 0 223 226 (41) = true := by decide +kernel
set_option maxHeartbeats 1000000 in
theorem cs_trace {b L : Nat} {xs : Nat → Int32} {Zc Zm : Sy} {K N : Nat} {Γ : Nat → List (Nat × Value) → List Value → St → St → Prop} {σ τ : St} {i j : Nat} (h : IsL b L xs Zc Zm K N Γ) (hKN : K ≤ 600000 ∧ N ≤ 7302249) (hi : i + 8 ≤ L) (hL : L ≤ 4096) (hR : RelF j σ τ) (hj : j < 512) (cont : ∀ σ' τ', RelF (j + 1) σ' τ' → Γ 2377 (lsL b Zc Zm (nI i)) [] σ' τ') : Γ 2328 (lsL b Zc Zm (nI i)) [] σ τ := by
  obtain ⟨r, e1, e2⟩ := op_trace hR.1 
  exact l_case h hKN hi hL (by decide) dc_trace lk_L_223 vk_L_223 rfl lk_L_226 vk_L_226 rfl (d1 := 1) (d2 := 1) (by decide) (by decide) rfl (v := r) (m_P_trace e1) (m_M_trace e2) (cont _ _ (relF_up hR hj))
theorem dc_fault : cDb 2341 0 227 230 (28) = true := by decide +kernel
set_option maxHeartbeats 1000000 in
theorem cs_fault {b L : Nat} {xs : Nat → Int32} {Zc Zm : Sy} {K N : Nat} {Γ : Nat → List (Nat × Value) → List Value → St → St → Prop} {σ τ : St} {i j : Nat} (h : IsL b L xs Zc Zm K N Γ) (hKN : K ≤ 600000 ∧ N ≤ 7302249) (hi : i + 8 ≤ L) (hL : L ≤ 4096) (hR : RelF j σ τ) (hj : j < 512) (cont : ∀ σ' τ', RelF (j + 1) σ' τ' → Γ 2377 (lsL b Zc Zm (nI i)) [] σ' τ') : Γ 2341 (lsL b Zc Zm (nI i)) [] σ τ := by
  obtain ⟨r, e1, e2⟩ := op_fault hR.1 
  exact l_case h hKN hi hL (by decide) dc_fault lk_L_227 vk_L_227 rfl lk_L_230 vk_L_230 rfl (d1 := 1) (d2 := 1) (by decide) (by decide) rfl (v := r) (m_P_fault e1) (m_M_fault e2) (cont _ _ (relF_up hR hj))
theorem dc_many : cDb 2354 1 231 234 (5) = true := by decide +kernel
set_option maxHeartbeats 1000000 in
theorem cs_many {b L : Nat} {xs : Nat → Int32} {Zc Zm : Sy} {K N : Nat} {Γ : Nat → List (Nat × Value) → List Value → St → St → Prop} {σ τ : St} {i j : Nat} (h : IsL b L xs Zc Zm K N Γ) (hKN : K ≤ 600000 ∧ N ≤ 7302249) (hi : i + 8 ≤ L) (hL : L ≤ 4096) (hR : RelF j σ τ) (hj : j < 512) (cont : ∀ σ' τ', RelF (j + 1) σ' τ' → Γ 2377 (lsL b Zc Zm (nI i)) [] σ' τ') : Γ 2354 (lsL b Zc Zm (nI i)) [] σ τ := by
  obtain ⟨r, e1, e2⟩ := op_many hR.1 (xs (i + 1))
  exact l_case h hKN hi hL (by decide) dc_many lk_L_231 vk_L_231 rfl lk_L_234 vk_L_234 rfl (d1 := 1) (d2 := 1) (by decide) (by decide) rfl (v := r) (m_P_many e1) (m_M_many e2) (cont _ _ (relF_up hR hj))
