/-! the law's cases -/
def cDb (pc n i1 i2 : Nat) (off : Int) : Bool := decide (decode code pc = .ok (.aload_n 1, 1)) && (aDb n 1 (pc + 1) && (decide (decode code (aEnd n 1 (pc + 1)) = .ok (.invokevirtual i1, 3)) && (decide (decode code (aEnd n 1 (pc + 1) + 3) = .ok (.aload_n 2, 1)) && (aDb n 1 (aEnd n 1 (pc + 1) + 4) && (decide (decode code (aEnd n 1 (aEnd n 1 (pc + 1) + 4)) = .ok (.invokevirtual i2, 3)) && (decide (decode code (aEnd n 1 (aEnd n 1 (pc + 1) + 4) + 3) = .ok (.if_icmp .eq off, 3)) && decide (((aEnd n 1 (aEnd n 1 (pc + 1) + 4) + 3 : Nat) : Int) + off = ((2377 : Nat) : Int))))))))
def cDbL (pc n i1 i2 : Nat) (off : Int) : Bool := decide (decode code pc = .ok (.aload_n 1, 1)) && (aDb n 1 (pc + 1) && (decide (decode code (aEnd n 1 (pc + 1)) = .ok (.invokevirtual i1, 3)) && (decide (decode code (aEnd n 1 (pc + 1) + 3) = .ok (.aload_n 2, 1)) && (aDb n 1 (aEnd n 1 (pc + 1) + 4) && (decide (decode code (aEnd n 1 (aEnd n 1 (pc + 1) + 4)) = .ok (.invokevirtual i2, 3)) && (decide (decode code (aEnd n 1 (aEnd n 1 (pc + 1) + 4) + 3) = .ok (.lcmp, 1)) && (decide (decode code (aEnd n 1 (aEnd n 1 (pc + 1) + 4) + 4) = .ok (.ifCond .eq off, 3)) && decide (((aEnd n 1 (aEnd n 1 (pc + 1) + 4) + 4 : Nat) : Int) + off = ((2377 : Nat) : Int)))))))))
section LC
variable {b L : Nat} {xs : Nat → Int32} {Zc Zm : Sy} {K N : Nat} {Γ : Nat → List (Nat × Value) → List Value → St → St → Prop} {σ τ σ1 τ1 : St}
theorem aVs_len (xs : Nat → Int32) (i : Nat) : ∀ n k, (aVs xs i n k).length = n := by
  intro n
  induction n with
  | zero => intro k; rfl
  | succ n ih => intro k; simp only [aVs, List.length_cons, ih]
theorem l_case (h : IsL b L xs Zc Zm K N Γ) (hKN : K ≤ 600000 ∧ N ≤ 7302249) {i : Nat} (hi : i + 8 ≤ L) (hL : L ≤ 4096) {pc n i1 i2 : Nat} {off : Int} (hn : n ≤ 7) (cd : cDb pc n i1 i2 off = true) {y1 y2 : MethodName} {c1 c2 : ByteArray} {m1 m2 : Nat} {r1 r2 : Option FieldType} (hL1 : qLk R_L i1 y1 c1 m1 r1 n) (hV1 : qLkV R_L i1 y1) (hc1 : y1.cls = R_P) (hL2 : qLk R_L i2 y2 c2 m2 r2 n) (hV2 : qLkV R_L i2 y2) (hc2 : y2.cls = R_M) {d1 d2 : Nat} (hd1 : d1 < 100) (hd2 : d2 < 100) {As : List Value} (hAs : aVs xs i n 1 = As) {v : Int32} (t1 : Ct YC Zc y1 c1 m1 r1 d1 (.ref (ya Zc 0) :: As) σ (some (.int v)) σ1) (t2 : Ct YM Zm y2 c2 m2 r2 d2 (.ref (ya Zm 0) :: As) τ (some (.int v)) τ1) (g : Γ 2377 (lsL b Zc Zm (nI i)) [] σ1 τ1) : Γ pc (lsL b Zc Zm (nI i)) [] σ τ := by
  subst hAs
  simp only [cDb, Bool.and_eq_true, decide_eq_true_eq] at cd
  obtain ⟨q1, q2, q3, q4, q5, q6, q7, q8⟩ := cd
  refine l_aload1 h q1 ?_
  refine l_args h hi hL n 1 _ _ (by omega) q2 ?_
  refine l_callC h hKN hL1 hV1 hc1 q3 hd1 (aVs_len xs i n 1) rfl (Nat.le_of_ble_eq_true rfl) t1 ?_
  refine l_aload2 h q4 ?_
  refine l_args h hi hL n 1 _ _ (by omega) q5 ?_
  refine l_callM h hKN hL2 hV2 hc2 q6 hd2 (aVs_len xs i n 1) rfl (Nat.le_of_ble_eq_true rfl) t2 ?_
  exact l_eqI h ⟨q7, q8⟩ g
theorem l_eqL (h : IsL b L xs Zc Zm K N Γ) {v : Int64} {pc : Nat} {ls : List (Nat × Value)} {st : List Value} {off : Int} {tgt : Nat} (hd : decode code pc = .ok (.lcmp, 1) ∧ decode code (pc + 1) = .ok (.ifCond .eq off, 3) ∧ ((pc + 1 : Nat) : Int) + off = (tgt : Int)) (g : Γ tgt ls st σ τ) : Γ pc ls (.long v :: .long v :: st) σ τ := by
  obtain ⟨p, e, s, m, below, meth, c, ⟨⟨hx, hb, hr, hml, hown, hlk⟩, hrest⟩, rfl⟩ := h
  exact fun H lsA hPc hPm hS hl => W.lcmp hx hb hd.1 (lv_if_eq hx hb hd.2.1 hd.2.2 (fun _ => g H lsA hPc hPm hS hl) (fun z => absurd ((lcm_eq v v).mpr rfl) z))
theorem l_caseL (h : IsL b L xs Zc Zm K N Γ) (hKN : K ≤ 600000 ∧ N ≤ 7302249) {i : Nat} (hi : i + 8 ≤ L) (hL : L ≤ 4096) {pc n i1 i2 : Nat} {off : Int} (hn : n ≤ 7) (cd : cDbL pc n i1 i2 off = true) {y1 y2 : MethodName} {c1 c2 : ByteArray} {m1 m2 : Nat} {r1 r2 : Option FieldType} (hL1 : qLk R_L i1 y1 c1 m1 r1 n) (hV1 : qLkV R_L i1 y1) (hc1 : y1.cls = R_P) (hL2 : qLk R_L i2 y2 c2 m2 r2 n) (hV2 : qLkV R_L i2 y2) (hc2 : y2.cls = R_M) {d1 d2 : Nat} (hd1 : d1 < 100) (hd2 : d2 < 100) {As : List Value} (hAs : aVs xs i n 1 = As) {v : Int64} (t1 : Ct YC Zc y1 c1 m1 r1 d1 (.ref (ya Zc 0) :: As) σ (some (.long v)) σ1) (t2 : Ct YM Zm y2 c2 m2 r2 d2 (.ref (ya Zm 0) :: As) τ (some (.long v)) τ1) (g : Γ 2377 (lsL b Zc Zm (nI i)) [] σ1 τ1) : Γ pc (lsL b Zc Zm (nI i)) [] σ τ := by
  subst hAs
  simp only [cDbL, Bool.and_eq_true, decide_eq_true_eq] at cd
  obtain ⟨q1, q2, q3, q4, q5, q6, q7, q8, q9⟩ := cd
  refine l_aload1 h q1 ?_
  refine l_args h hi hL n 1 _ _ (by omega) q2 ?_
  refine l_callC h hKN hL1 hV1 hc1 q3 hd1 (aVs_len xs i n 1) rfl (Nat.le_of_ble_eq_true rfl) t1 ?_
  refine l_aload2 h q4 ?_
  refine l_args h hi hL n 1 _ _ (by omega) q5 ?_
  refine l_callM h hKN hL2 hV2 hc2 q6 hd2 (aVs_len xs i n 1) rfl (Nat.le_of_ble_eq_true rfl) t2 ?_
  exact l_eqL h ⟨q7, q8, q9⟩ g
end LC
