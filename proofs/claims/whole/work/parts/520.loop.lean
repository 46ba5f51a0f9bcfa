theorem ts_clP : Cond.classLink R_L 7 R_P ∈ tb := q_mt1 17 (by decide +kernel) (by decide +kernel)
theorem ts_clM : Cond.classLink R_L 10 R_M ∈ tb := q_mt5 130 (by decide +kernel) (by decide +kernel)
theorem ts_mlP : Cond.methodLink R_L 9 y_P_init ∈ tb := q_mt1 19 (by decide +kernel) (by decide +kernel)
theorem ts_mlM : Cond.methodLink R_L 12 y_M_init ∈ tb := q_mt5 132 (by decide +kernel) (by decide +kernel)
theorem ts_imP : Cond.instanceMethod y_P_init ∈ tb := q_mt1 20 (by decide +kernel) (by decide +kernel)
theorem ts_imM : Cond.instanceMethod y_M_init ∈ tb := q_mt5 133 (by decide +kernel) (by decide +kernel)
theorem ts_cdP : Cond.code y_P_init c_P_init 1 none ∈ tb := q_mt1 21 (by decide +kernel) (by decide +kernel)
theorem ts_cdM : Cond.code y_M_init c_M_init 2 none ∈ tb := q_mt5 134 (by decide +kernel) (by decide +kernel)
theorem ts_inP : Cond.initialized R_P ∈ tb := q_mt1 1 (by decide +kernel) (by decide +kernel)
theorem ts_inM : Cond.initialized R_M ∈ tb := q_mt1 14 (by decide +kernel) (by decide +kernel)
theorem ts_is_P : Cond.instantiable R_P 15 ∈ tb := q_mt1 18 (by decide +kernel) (by decide +kernel)
theorem ts_is_Roll : Cond.instantiable R_Roll 7 ∈ tb := q_mt1 26 (by decide +kernel) (by decide +kernel)
theorem ts_is_Spans : Cond.instantiable R_Spans 5 ∈ tb := q_mt1 62 (by decide +kernel) (by decide +kernel)
theorem ts_is_Packs : Cond.instantiable R_Packs 8 ∈ tb := q_mt1 92 (by decide +kernel) (by decide +kernel)
theorem ts_is_Ledger : Cond.instantiable R_Ledger 7 ∈ tb := q_mt1 128 (by decide +kernel) (by decide +kernel)
theorem ts_is_News : Cond.instantiable R_News 5 ∈ tb := q_mt1 166 (by decide +kernel) (by decide +kernel)
theorem ts_is_Texts : Cond.instantiable R_Texts 10 ∈ tb := q_mt1 190 (by decide +kernel) (by decide +kernel)
theorem ts_is_Debts : Cond.instantiable R_Debts 8 ∈ tb := q_mt1 228 (by decide +kernel) (by decide +kernel)
theorem ts_is_Owed : Cond.instantiable R_Owed 7 ∈ tb := q_mt2 27 (by decide +kernel) (by decide +kernel)
theorem ts_is_Rounds : Cond.instantiable R_Rounds 3 ∈ tb := q_mt2 57 (by decide +kernel) (by decide +kernel)
theorem ts_is_Offers : Cond.instantiable R_Offers 10 ∈ tb := q_mt2 75 (by decide +kernel) (by decide +kernel)
theorem ts_is_Sheets : Cond.instantiable R_Sheets 3 ∈ tb := q_mt2 115 (by decide +kernel) (by decide +kernel)
theorem ts_is_M : Cond.instantiable R_M 79 ∈ tb := q_mt5 131 (by decide +kernel) (by decide +kernel)
theorem ts_aI : Cond.arrayClass .int ∈ tb := q_mt1 60 (by decide +kernel) (by decide +kernel)
theorem ts_aJ : Cond.arrayClass .long ∈ tb := q_mt1 188 (by decide +kernel) (by decide +kernel)
theorem ts_LETTERS : Cond.laysStatic "PedlarBook$Texts" "LETTERS" "[I" ∈ lw_tbl := List.mem_of_getElem? (i := 729) (by decide +kernel)
theorem ts_LEAST : Cond.laysStatic "PedlarBook$Texts" "LEAST" "[I" ∈ lw_tbl := List.mem_of_getElem? (i := 740) (by decide +kernel)
theorem ts_MOST : Cond.laysStatic "PedlarBook$Texts" "MOST" "[I" ∈ lw_tbl := List.mem_of_getElem? (i := 742) (by decide +kernel)
theorem ts_n0 : Cond.methodLinkNest R_Roll 34 y_P_isBelow "PedlarBook" ∈ lw_tbl := List.mem_of_getElem? (i := 532) (by decide +kernel)
theorem ts_n1 : Cond.methodLinkNest R_Packs 34 y_P_isBelow "PedlarBook" ∈ lw_tbl := List.mem_of_getElem? (i := 592) (by decide +kernel)
theorem ts_n2 : Cond.methodLinkNest R_Ledger 30 y_P_isBelow "PedlarBook" ∈ lw_tbl := List.mem_of_getElem? (i := 597) (by decide +kernel)
theorem ts_n3 : Cond.methodLinkNest R_Sheets 21 y_P_isBelow "PedlarBook" ∈ lw_tbl := List.mem_of_getElem? (i := 618) (by decide +kernel)
theorem ts_n4 : Cond.methodLinkNest R_Rounds 22 y_P_isBelow "PedlarBook" ∈ lw_tbl := List.mem_of_getElem? (i := 992) (by decide +kernel)
def swT : Array Int := #[227, 250, 283, 306, 359, 392, 435, 478, 553, 616, 649, 692, 725, 778, 811, 898, 941, 984, 1037, 1090, 1143, 1166, 1229, 1262, 1305, 1338, 1381, 1415, 1468, 1511, 1544, 1557, 1600, 1633, 1646, 1699, 1762, 1795, 1818, 1871, 1934, 1957, 1980, 2023, 2046, 2089, 2133, 2196, 2229, 2252, 2295, 2308, 2321]
theorem dl_0 : decode code 0 = .ok (.new 7, 3) := by decide +kernel
theorem dl_3 : decode code 3 = .ok (.dup, 1) := by decide +kernel
theorem dl_4 : decode code 4 = .ok (.invokespecial 9, 3) := by decide +kernel
theorem dl_7 : decode code 7 = .ok (.astore_n 1, 1) := by decide +kernel
theorem dl_8 : decode code 8 = .ok (.new 10, 3) := by decide +kernel
theorem dl_11 : decode code 11 = .ok (.dup, 1) := by decide +kernel
theorem dl_12 : decode code 12 = .ok (.invokespecial 12, 3) := by decide +kernel
theorem dl_15 : decode code 15 = .ok (.astore_n 2, 1) := by decide +kernel
theorem dl_16 : decode code 16 = .ok (.iconst 0, 1) := by decide +kernel
theorem dl_17 : decode code 17 = .ok (.istore_n 3, 1) := by decide +kernel
theorem dl_18 : decode code 18 = .ok (.iload_n 3, 1) := by decide +kernel
theorem dl_19 : decode code 19 = .ok (.aload_n 0, 1) := by decide +kernel
theorem dl_20 : decode code 20 = .ok (.arraylength, 1) := by decide +kernel
theorem dl_21 : decode code 21 = .ok (.bipush 8, 2) := by decide +kernel
theorem dl_23 : decode code 23 = .ok (.isub, 1) := by decide +kernel
theorem dl_24 : decode code 24 = .ok (.if_icmp .gt 2359, 3) := by decide +kernel
theorem dl_27 : decode code 27 = .ok (.aload_n 0, 1) := by decide +kernel
theorem dl_28 : decode code 28 = .ok (.iload_n 3, 1) := by decide +kernel
theorem dl_29 : decode code 29 = .ok (.iaload, 1) := by decide +kernel
theorem dl_30 : decode code 30 = .ok (.bipush 63, 2) := by decide +kernel
theorem dl_32 : decode code 32 = .ok (.iand, 1) := by decide +kernel
theorem dl_2377 : decode code 2377 = .ok (.iinc 3 8, 3) := by decide +kernel
theorem dl_2380 : decode code 2380 = .ok (.goto (-2362), 3) := by decide +kernel
theorem dl_2383 : decode code 2383 = .ok (.iconst 1, 1) := by decide +kernel
theorem dl_2384 : decode code 2384 = .ok (.ireturn, 1) := by decide +kernel
theorem dl_33 : decode code 33 = .ok (.tableswitch 2344 0 52 swT, 227) := by decide +kernel
theorem sv_0 {s : State} {b : Nat} (hts : ∀ w ∈ lw_tbl, w.before #[Value.ref b] s = true) (hgv : (Jvm.Cond.and given_1 narrow_1).before #[Value.ref b] s = true) : ∃ t : Nat, va_Z "PedlarBook$Texts" "LETTERS" "[I" (.ref t) (fun q => s.heap.size ≤ q) s s.heap ∧ va_T .int t 7 (fun j => .int (stf_0 j)) (fun q => s.heap.size ≤ q) s s.heap := by
  have hs := flat_of_before _ hgv
  have hA : ∀ a : Nat, a < s.heap.size → ¬ (fun q : Nat => s.heap.size ≤ q) a := fun a h => Nat.not_le.mpr h
  have hlen := va_eqt (hs (Cond.eq (.length (.static "PedlarBook$Texts" "LETTERS" "[I")) (.int 7)) (by decide +kernel))
  have harr := hs (Cond.arrayOf (.static "PedlarBook$Texts" "LETTERS" "[I") .int) (by decide +kernel)
  obtain ⟨t, ht, hT⟩ := va_Tof (N := 7) (f := fun j => .int (stf_0 j)) (A := fun q => s.heap.size ≤ q) (by decide) harr hlen (fun j hj => by
    match j, hj with
    | 0, _ => exact va_eqt (hs (Cond.eq (.elem (.static "PedlarBook$Texts" "LETTERS" "[I") (.int 0)) (.int (stf_0 0))) (by decide +kernel))
    | 1, _ => exact va_eqt (hs (Cond.eq (.elem (.static "PedlarBook$Texts" "LETTERS" "[I") (.int 1)) (.int (stf_0 1))) (by decide +kernel))
    | 2, _ => exact va_eqt (hs (Cond.eq (.elem (.static "PedlarBook$Texts" "LETTERS" "[I") (.int 2)) (.int (stf_0 2))) (by decide +kernel))
    | 3, _ => exact va_eqt (hs (Cond.eq (.elem (.static "PedlarBook$Texts" "LETTERS" "[I") (.int 3)) (.int (stf_0 3))) (by decide +kernel))
    | 4, _ => exact va_eqt (hs (Cond.eq (.elem (.static "PedlarBook$Texts" "LETTERS" "[I") (.int 4)) (.int (stf_0 4))) (by decide +kernel))
    | 5, _ => exact va_eqt (hs (Cond.eq (.elem (.static "PedlarBook$Texts" "LETTERS" "[I") (.int 5)) (.int (stf_0 5))) (by decide +kernel))
    | 6, _ => exact va_eqt (hs (Cond.eq (.elem (.static "PedlarBook$Texts" "LETTERS" "[I") (.int 6)) (.int (stf_0 6))) (by decide +kernel))
    | j + 7, hj => omega) hA
  exact ⟨t, va_Zof (hts _ ts_LETTERS) (hts _ (List.mem_filter.mp tm_86).1) ht hA, hT⟩
theorem sv_1 {s : State} {b : Nat} (hts : ∀ w ∈ lw_tbl, w.before #[Value.ref b] s = true) (hgv : (Jvm.Cond.and given_1 narrow_1).before #[Value.ref b] s = true) : ∃ t : Nat, va_Z "PedlarBook$Texts" "LEAST" "[I" (.ref t) (fun q => s.heap.size ≤ q) s s.heap ∧ va_T .int t 7 (fun j => .int (stf_1 j)) (fun q => s.heap.size ≤ q) s s.heap := by
  have hs := flat_of_before _ hgv
  have hA : ∀ a : Nat, a < s.heap.size → ¬ (fun q : Nat => s.heap.size ≤ q) a := fun a h => Nat.not_le.mpr h
  have hlen := va_eqt (hs (Cond.eq (.length (.static "PedlarBook$Texts" "LEAST" "[I")) (.int 7)) (by decide +kernel))
  have harr := hs (Cond.arrayOf (.static "PedlarBook$Texts" "LEAST" "[I") .int) (by decide +kernel)
  obtain ⟨t, ht, hT⟩ := va_Tof (N := 7) (f := fun j => .int (stf_1 j)) (A := fun q => s.heap.size ≤ q) (by decide) harr hlen (fun j hj => by
    match j, hj with
    | 0, _ => exact va_eqt (hs (Cond.eq (.elem (.static "PedlarBook$Texts" "LEAST" "[I") (.int 0)) (.int (stf_1 0))) (by decide +kernel))
    | 1, _ => exact va_eqt (hs (Cond.eq (.elem (.static "PedlarBook$Texts" "LEAST" "[I") (.int 1)) (.int (stf_1 1))) (by decide +kernel))
    | 2, _ => exact va_eqt (hs (Cond.eq (.elem (.static "PedlarBook$Texts" "LEAST" "[I") (.int 2)) (.int (stf_1 2))) (by decide +kernel))
    | 3, _ => exact va_eqt (hs (Cond.eq (.elem (.static "PedlarBook$Texts" "LEAST" "[I") (.int 3)) (.int (stf_1 3))) (by decide +kernel))
    | 4, _ => exact va_eqt (hs (Cond.eq (.elem (.static "PedlarBook$Texts" "LEAST" "[I") (.int 4)) (.int (stf_1 4))) (by decide +kernel))
    | 5, _ => exact va_eqt (hs (Cond.eq (.elem (.static "PedlarBook$Texts" "LEAST" "[I") (.int 5)) (.int (stf_1 5))) (by decide +kernel))
    | 6, _ => exact va_eqt (hs (Cond.eq (.elem (.static "PedlarBook$Texts" "LEAST" "[I") (.int 6)) (.int (stf_1 6))) (by decide +kernel))
    | j + 7, hj => omega) hA
  exact ⟨t, va_Zof (hts _ ts_LEAST) (hts _ (List.mem_filter.mp tm_86).1) ht hA, hT⟩
theorem sv_2 {s : State} {b : Nat} (hts : ∀ w ∈ lw_tbl, w.before #[Value.ref b] s = true) (hgv : (Jvm.Cond.and given_1 narrow_1).before #[Value.ref b] s = true) : ∃ t : Nat, va_Z "PedlarBook$Texts" "MOST" "[I" (.ref t) (fun q => s.heap.size ≤ q) s s.heap ∧ va_T .int t 7 (fun j => .int (stf_2 j)) (fun q => s.heap.size ≤ q) s s.heap := by
  have hs := flat_of_before _ hgv
  have hA : ∀ a : Nat, a < s.heap.size → ¬ (fun q : Nat => s.heap.size ≤ q) a := fun a h => Nat.not_le.mpr h
  have hlen := va_eqt (hs (Cond.eq (.length (.static "PedlarBook$Texts" "MOST" "[I")) (.int 7)) (by decide +kernel))
  have harr := hs (Cond.arrayOf (.static "PedlarBook$Texts" "MOST" "[I") .int) (by decide +kernel)
  obtain ⟨t, ht, hT⟩ := va_Tof (N := 7) (f := fun j => .int (stf_2 j)) (A := fun q => s.heap.size ≤ q) (by decide) harr hlen (fun j hj => by
    match j, hj with
    | 0, _ => exact va_eqt (hs (Cond.eq (.elem (.static "PedlarBook$Texts" "MOST" "[I") (.int 0)) (.int (stf_2 0))) (by decide +kernel))
    | 1, _ => exact va_eqt (hs (Cond.eq (.elem (.static "PedlarBook$Texts" "MOST" "[I") (.int 1)) (.int (stf_2 1))) (by decide +kernel))
    | 2, _ => exact va_eqt (hs (Cond.eq (.elem (.static "PedlarBook$Texts" "MOST" "[I") (.int 2)) (.int (stf_2 2))) (by decide +kernel))
    | 3, _ => exact va_eqt (hs (Cond.eq (.elem (.static "PedlarBook$Texts" "MOST" "[I") (.int 3)) (.int (stf_2 3))) (by decide +kernel))
    | 4, _ => exact va_eqt (hs (Cond.eq (.elem (.static "PedlarBook$Texts" "MOST" "[I") (.int 4)) (.int (stf_2 4))) (by decide +kernel))
    | 5, _ => exact va_eqt (hs (Cond.eq (.elem (.static "PedlarBook$Texts" "MOST" "[I") (.int 5)) (.int (stf_2 5))) (by decide +kernel))
    | 6, _ => exact va_eqt (hs (Cond.eq (.elem (.static "PedlarBook$Texts" "MOST" "[I") (.int 6)) (.int (stf_2 6))) (by decide +kernel))
    | j + 7, hj => omega) hA
  exact ⟨t, va_Zof (hts _ ts_MOST) (hts _ (List.mem_filter.mp tm_86).1) ht hA, hT⟩
theorem qS_0 {s : State} {b : Nat} (hts : ∀ w ∈ lw_tbl, w.before #[Value.ref b] s = true) (hgv : (Jvm.Cond.and given_1 narrow_1).before #[Value.ref b] s = true) : ∃ T : Nat → Nat, ∀ (l : Launch) (D : va_G) (a : Nat → Nat) (cI cJ : ClassId), qS YC (l, D, a, cI, cJ, T) (fun q => s.heap.size ≤ q) s s.heap := by
  obtain ⟨t0, a0, b0⟩ := sv_0 hts hgv
  obtain ⟨t1, a1, b1⟩ := sv_1 hts hgv
  obtain ⟨t2, a2, b2⟩ := sv_2 hts hgv
  refine ⟨fun i => if i = 0 then t0 else if i = 1 then t1 else t2, fun l D a cI cJ i x hx => ?_⟩
  match i, hx with
  | 0, hx => cases hx; exact ⟨a0, b0⟩
  | 1, hx => cases hx; exact ⟨a1, b1⟩
  | 2, hx => cases hx; exact ⟨a2, b2⟩
  | i + 3, hx => simp [YC, sp_YC] at hx
theorem qN_0 {s : State} {b : Nat} (hts : ∀ w ∈ lw_tbl, w.before #[Value.ref b] s = true) : qN YC s := by
  intro w hw
  have hw : w ∈ ns_YC := hw
  simp only [ns_YC, List.mem_cons, List.not_mem_nil, or_false] at hw
  rcases hw with rfl | rfl | rfl | rfl | rfl
  · exact ⟨va_Nw.of rfl (hts _ ts_n0), _, _, _, _, rfl⟩
  · exact ⟨va_Nw.of rfl (hts _ ts_n1), _, _, _, _, rfl⟩
  · exact ⟨va_Nw.of rfl (hts _ ts_n2), _, _, _, _, rfl⟩
  · exact ⟨va_Nw.of rfl (hts _ ts_n3), _, _, _, _, rfl⟩
  · exact ⟨va_Nw.of rfl (hts _ ts_n4), _, _, _, _, rfl⟩
theorem arr_0 {s : State} {args : Array Value} {ty : FieldType} (hp : ty = .int ∨ ty = .long) (h : (Cond.arrayClass ty).before args s = true) : ∃ c : ClassId, ArrOfT s c ty ∧ va_RA s c ty := by
  obtain ⟨c, k, comp, h1, h2, h3⟩ := Cond.arrayClass_spec h
  refine ⟨c, fun n z => ⟨fun k h => (by cases h), k, h2, comp, h3⟩, ?_⟩
  rcases hp with rfl | rfl
  · exact h1
  · exact h1
section LP
variable {b L : Nat} {xs : Nat → Int32} {Zc Zm : Sy} {K N : Nat} {Γ : Nat → List (Nat × Value) → List Value → St → St → Prop} {σ τ : St}
theorem l_tab (h : IsL b L xs Zc Zm K N Γ) {x : Int32} {ls : List (Nat × Value)} {st : List Value} (k : Nat) {off : Int} {tgt : Nat} (hxk : x.toInt = k) (hk : k ≤ 52) (ho : swT[k]? = some off) (ht : ((33 : Nat) : Int) + off = (tgt : Int)) (g : Γ tgt ls st σ τ) : Γ 33 ls (.int x :: st) σ τ := by
  obtain ⟨p, e, s, m, below, meth, c, ⟨⟨hx, hb, hr, hml, hown, hlk⟩, hrest⟩, rfl⟩ := h
  exact fun H lsA hPc hPm hS hl => lv_tableIn hx hb dl_33 (by omega) (by omega) (by rw [hxk]; simpa using ho) ht (g H lsA hPc hPm hS hl)
theorem l_tabD (h : IsL b L xs Zc Zm K N Γ) {x : Int32} {ls : List (Nat × Value)} {st : List Value} (hxk : x.toInt < 0 ∨ 52 < x.toInt) (g : Γ 2377 ls st σ τ) : Γ 33 ls (.int x :: st) σ τ := by
  obtain ⟨p, e, s, m, below, meth, c, ⟨⟨hx, hb, hr, hml, hown, hlk⟩, hrest⟩, rfl⟩ := h
  exact fun H lsA hPc hPm hS hl => lv_tableOut hx hb dl_33 hxk (by decide) (g H lsA hPc hPm hS hl)
theorem l_head (h : IsL b L xs Zc Zm K N Γ) {i : Nat} (hL : L ≤ 4096) (hi : i ≤ 5000) (g1 : ¬ i + 8 ≤ L → Γ 2383 (lsL b Zc Zm (nI i)) [] σ τ) (g2 : i + 8 ≤ L → Γ 33 (lsL b Zc Zm (nI i)) [.int (xs i &&& 63)] σ τ) : Γ 18 (lsL b Zc Zm (nI i)) [] σ τ := by
  obtain ⟨p, e, s, m, below, meth, c, ⟨⟨hx, hb, hr, hml, hown, hlk⟩, hts, ⟨hX, hbl⟩, hrest⟩, rfl⟩ := h
  intro H lsA hPc hPm hS hl
  have e8 : (nI L - 8).toInt = (L : Int) - 8 := by
    have a1 := n_ti (k := L) (by omega)
    have a2 : (8 : Int32).toInt = 8 := by decide
    rw [n_sub (by omega) (by omega), a1, a2]
  refine lv_iload_n hx hb dl_18 rfl (lv_at hl 0 rfl) ?_
  refine lv_aload_n hx hb dl_19 rfl (lv_at hl 3 rfl) ?_
  refine va_slen hx hb hX hbl (A := fun q => s.heap.size ≤ q) (Nat.not_le.mpr hbl) hS dl_20 ?_
  refine lv_bipush (v := 8) hx hb dl_21 (by decide) ?_
  refine lv_isub hx hb dl_23 ?_
  refine lv_icmp_gt (tgt := 2383) hx hb dl_24 (by decide) (fun q => ?_) (fun q => ?_)
  · refine g1 (fun z => ?_) H lsA hPc hPm hS hl
    have q : nI L - 8 < nI i := q
    rw [n_lt, e8, n_ti (by omega)] at q
    omega
  · have q : ¬ nI L - 8 < nI i := q
    rw [n_lt, e8, n_ti (by omega)] at q
    have hi8 : i + 8 ≤ L := by omega
    refine lv_aload_n hx hb dl_27 rfl (lv_at hl 3 rfl) ?_
    refine lv_iload_n hx hb dl_28 rfl (lv_at hl 0 rfl) ?_
    refine va_sld hx hb hX hbl (A := fun q => s.heap.size ≤ q) (Nat.not_le.mpr hbl) hS (vp_in_nI (by omega) (by omega)) dl_29 ?_
    rw [n_tn (by omega)]
    refine lv_bipush (v := 63) hx hb dl_30 (by decide) ?_
    refine lv_iand hx hb dl_32 ?_
    exact g2 hi8 H lsA hPc hPm hS hl
theorem l_tail (h : IsL b L xs Zc Zm K N Γ) {i : Nat} (g : Γ 18 (lsL b Zc Zm (nI (i + 8))) [] σ τ) : Γ 2377 (lsL b Zc Zm (nI i)) [] σ τ := by
  obtain ⟨p, e, s, m, below, meth, c, ⟨⟨hx, hb, hr, hml, hown, hlk⟩, hrest⟩, rfl⟩ := h
  intro H lsA hPc hPm hS hl
  have e8 : nI i + 8 = nI (i + 8) := by rw [show (8 : Int32) = nI 8 by decide, nI_add]
  refine lv_iinc (v := nI (i + 8)) (lv' := lsL b Zc Zm (nI (i + 8))) hx hb dl_2377 hl (k := 0) rfl (by rw [← e8]; rfl) (by decide) rfl (fun l2 h2 => ?_)
  exact lv_goto (tgt := 18) hx hb dl_2380 (by decide) (g H l2 hPc hPm hS h2)
theorem l_end (h : IsL b L xs Zc Zm K N Γ) (hKN : K ≤ 600000 ∧ N ≤ 7302249) {i : Int32} : Γ 2383 (lsL b Zc Zm i) [] σ τ := by
  obtain ⟨p, e, s, m, below, meth, c, ⟨⟨hx, hb, hr, hml, hown, hlk⟩, hrest⟩, rfl⟩ := h
  intro H lsA hPc hPm hS hl
  refine lv_iconst (v := 1) hx hb dl_2383 (by decide) ?_
  refine W.widen (k := 600000) (n := 7302249) hKN.1 hKN.2 ?_
  exact lw_ret hx hb hr hlk dl_2384
set_option maxHeartbeats 4000000 in
theorem l_body (h : IsL b L xs Zc Zm K N Γ) (hKN : K ≤ 600000 ∧ N ≤ 7302249) {i j : Nat} (hi : i + 8 ≤ L) (hL : L ≤ 4096) (hR : RelF j σ τ) (hj : j < 512) (cont : ∀ σ' τ', RelF (j + 1) σ' τ' → Γ 2377 (lsL b Zc Zm (nI i)) [] σ' τ') : Γ 33 (lsL b Zc Zm (nI i)) [.int (xs i &&& 63)] σ τ := by
  by_cases q : (xs i &&& 63).toInt < 0 ∨ 52 < (xs i &&& 63).toInt
  · exact l_tabD h q (cont σ τ (relF_up hR hj))
  · obtain ⟨k, hk⟩ : ∃ k : Nat, (xs i &&& 63).toInt = k := ⟨(xs i &&& 63).toInt.toNat, by omega⟩
    have hk52 : k ≤ 52 := by omega
    match k, hk, hk52 with
    | 0, hk, _ => exact l_tab h 0 hk (by decide) rfl (by decide) (cs_place h hKN hi hL hR hj cont)
    | 1, hk, _ => exact l_tab h 1 hk (by decide) rfl (by decide) (cs_band h hKN hi hL hR hj cont)
    | 2, hk, _ => exact l_tab h 2 hk (by decide) rfl (by decide) (cs_house h hKN hi hL hR hj cont)
    | 3, hk, _ => exact l_tab h 3 hk (by decide) rfl (by decide) (cs_walk h hKN hi hL hR hj cont)
    | 4, hk, _ => exact l_tab h 4 hk (by decide) rfl (by decide) (cs_day h hKN hi hL hR hj cont)
    | 5, hk, _ => exact l_tab h 5 hk (by decide) rfl (by decide) (cs_meet h hKN hi hL hR hj cont)
    | 6, hk, _ => exact l_tab h 6 hk (by decide) rfl (by decide) (cs_pack h hKN hi hL hR hj cont)
    | 7, hk, _ => exact l_tab h 7 hk (by decide) rfl (by decide) (cs_entry h hKN hi hL hR hj cont)
    | 8, hk, _ => exact l_tab h 8 hk (by decide) rfl (by decide) (cs_entries h hKN hi hL hR hj cont)
    | 9, hk, _ => exact l_tab h 9 hk (by decide) rfl (by decide) (cs_told h hKN hi hL hR hj cont)
    | 10, hk, _ => exact l_tab h 10 hk (by decide) rfl (by decide) (cs_held h hKN hi hL hR hj cont)
    | 11, hk, _ => exact l_tab h 11 hk (by decide) rfl (by decide) (cs_known h hKN hi hL hR hj cont)
    | 12, hk, _ => exact l_tab h 12 hk (by decide) rfl (by decide) (cs_as h hKN hi hL hR hj cont)
    | 13, hk, _ => exact l_tab h 13 hk (by decide) rfl (by decide) (cs_knows h hKN hi hL hR hj cont)
    | 14, hk, _ => exact l_tab h 14 hk (by decide) rfl (by decide) (cs_text h hKN hi hL hR hj cont)
    | 15, hk, _ => exact l_tab h 15 hk (by decide) rfl (by decide) (cs_force h hKN hi hL hR hj cont)
    | 16, hk, _ => exact l_tab h 16 hk (by decide) rfl (by decide) (cs_bar h hKN hi hL hR hj cont)
    | 17, hk, _ => exact l_tab h 17 hk (by decide) rfl (by decide) (cs_why h hKN hi hL hR hj cont)
    | 18, hk, _ => exact l_tab h 18 hk (by decide) rfl (by decide) (cs_quarrel h hKN hi hL hR hj cont)
    | 19, hk, _ => exact l_tab h 19 hk (by decide) rfl (by decide) (cs_licence h hKN hi hL hR hj cont)
    | 20, hk, _ => exact l_tab h 20 hk (by decide) rfl (by decide) (cs_unallowed h hKN hi hL hR hj cont)
    | 21, hk, _ => exact l_tab h 21 hk (by decide) rfl (by decide) (cs_door h hKN hi hL hR hj cont)
    | 22, hk, _ => exact l_tab h 22 hk (by decide) rfl (by decide) (cs_due h hKN hi hL hR hj cont)
    | 23, hk, _ => exact l_tab h 23 hk (by decide) rfl (by decide) (cs_paid h hKN hi hL hR hj cont)
    | 24, hk, _ => exact l_tab h 24 hk (by decide) rfl (by decide) (cs_dead h hKN hi hL hR hj cont)
    | 25, hk, _ => exact l_tab h 25 hk (by decide) rfl (by decide) (cs_send h hKN hi hL hR hj cont)
    | 26, hk, _ => exact l_tab h 26 hk (by decide) rfl (by decide) (cs_credit h hKN hi hL hR hj cont)
    | 27, hk, _ => exact l_tab h 27 hk (by decide) rfl (by decide) (cs_share h hKN hi hL hR hj cont)
    | 28, hk, _ => exact l_tab h 28 hk (by decide) rfl (by decide) (cs_owe h hKN hi hL hR hj cont)
    | 29, hk, _ => exact l_tab h 29 hk (by decide) rfl (by decide) (cs_owes h hKN hi hL hR hj cont)
    | 30, hk, _ => exact l_tab h 30 hk (by decide) rfl (by decide) (cs_ring h hKN hi hL hR hj cont)
    | 31, hk, _ => exact l_tab h 31 hk (by decide) rfl (by decide) (cs_party h hKN hi hL hR hj cont)
    | 32, hk, _ => exact l_tab h 32 hk (by decide) rfl (by decide) (cs_pays h hKN hi hL hR hj cont)
    | 33, hk, _ => exact l_tab h 33 hk (by decide) rfl (by decide) (cs_ruin h hKN hi hL hR hj cont)
    | 34, hk, _ => exact l_tab h 34 hk (by decide) rfl (by decide) (cs_round h hKN hi hL hR hj cont)
    | 35, hk, _ => exact l_tab h 35 hk (by decide) rfl (by decide) (cs_right h hKN hi hL hR hj cont)
    | 36, hk, _ => exact l_tab h 36 hk (by decide) rfl (by decide) (cs_holder h hKN hi hL hR hj cont)
    | 37, hk, _ => exact l_tab h 37 hk (by decide) rfl (by decide) (cs_two h hKN hi hL hR hj cont)
    | 38, hk, _ => exact l_tab h 38 hk (by decide) rfl (by decide) (cs_walked h hKN hi hL hR hj cont)
    | 39, hk, _ => exact l_tab h 39 hk (by decide) rfl (by decide) (cs_offer h hKN hi hL hR hj cont)
    | 40, hk, _ => exact l_tab h 40 hk (by decide) rfl (by decide) (cs_best h hKN hi hL hR hj cont)
    | 41, hk, _ => exact l_tab h 41 hk (by decide) rfl (by decide) (cs_judge h hKN hi hL hR hj cont)
    | 42, hk, _ => exact l_tab h 42 hk (by decide) rfl (by decide) (cs_sheet h hKN hi hL hR hj cont)
    | 43, hk, _ => exact l_tab h 43 hk (by decide) rfl (by decide) (cs_lose h hKN hi hL hR hj cont)
    | 44, hk, _ => exact l_tab h 44 hk (by decide) rfl (by decide) (cs_put h hKN hi hL hR hj cont)
    | 45, hk, _ => exact l_tab h 45 hk (by decide) rfl (by decide) (cs_cell h hKN hi hL hR hj cont)
    | 46, hk, _ => exact l_tab h 46 hk (by decide) rfl (by decide) (cs_copy h hKN hi hL hR hj cont)
    | 47, hk, _ => exact l_tab h 47 hk (by decide) rfl (by decide) (cs_tell h hKN hi hL hR hj cont)
    | 48, hk, _ => exact l_tab h 48 hk (by decide) rfl (by decide) (cs_show h hKN hi hL hR hj cont)
    | 49, hk, _ => exact l_tab h 49 hk (by decide) rfl (by decide) (cs_taken h hKN hi hL hR hj cont)
    | 50, hk, _ => exact l_tab h 50 hk (by decide) rfl (by decide) (cs_trace h hKN hi hL hR hj cont)
    | 51, hk, _ => exact l_tab h 51 hk (by decide) rfl (by decide) (cs_fault h hKN hi hL hR hj cont)
    | 52, hk, _ => exact l_tab h 52 hk (by decide) rfl (by decide) (cs_many h hKN hi hL hR hj cont)
    | k + 53, hk, hk52 => omega
theorem l_loop (h : IsL b L xs Zc Zm K N Γ) (hKN : K ≤ 600000 ∧ N ≤ 7302249) (hL : L ≤ 4096) : ∀ k j σ τ, 512 - j ≤ k → j ≤ 512 → RelF j σ τ → Γ 18 (lsL b Zc Zm (nI (8 * j))) [] σ τ := by
  intro k
  induction k with
  | zero =>
    intro j σ τ hk hj hR
    refine l_head h hL (by omega) (fun _ => l_end h hKN) (fun z => ?_)
    omega
  | succ k ih =>
    intro j σ τ hk hj hR
    refine l_head h hL (by omega) (fun _ => l_end h hKN) (fun z => ?_)
    have hj' : j < 512 := by omega
    exact l_body h hKN z hL hR hj' (fun σ' τ' hR' => l_tail h (ih (j + 1) σ' τ' (by omega) (by omega) hR'))
end LP
