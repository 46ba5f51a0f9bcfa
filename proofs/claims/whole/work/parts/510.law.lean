/-! the law's own walk: two worlds -/
def lsL (b : Nat) (Zc Zm : Sy) (i : Int32) : List (Nat × Value) := [(3, .int i), (2, .ref (ya Zm 0)), (1, .ref (ya Zc 0)), (0, .ref b)]
def lFx (p : Program) (s : State) (m : MethodId) (meth : Method) (c : Code) (b L : Nat) (xs : Nat → Int32) (Zc Zm : Sy) : Prop :=
  (p.tables.exec = Jvm.exec ∧ c.code = code ∧ meth.sig.returnType = ret ∧ c.maxLocals = 4 ∧ s.vm.findClass R_L = some m.cls ∧ meth.locks = false) ∧ (∀ w ∈ tb, w.before #[Value.ref b] s = true) ∧ (va_X b L xs s s.heap ∧ b < s.heap.size) ∧
  (va_K (yD Zc) YC.1 (yt Zc) s ∧ va_K (yD Zm) YM.1 (yt Zm) s) ∧ qS YC Zc (fun q => s.heap.size ≤ q) s s.heap ∧ qN YC s ∧ yl Zc = yl Zm ∧
  (va_D (fun q => s.heap.size ≤ q) (q_ws YC Zc st0C) ∧ va_D (fun q => s.heap.size ≤ q) (q_ws YM Zm st0M)) ∧ ((∀ k, k < YC.2.1.length → s.heap.size ≤ ya Zc k) ∧ (∀ k, k < YM.2.1.length → s.heap.size ≤ ya Zm k)) ∧ (∀ i j, i < YC.2.1.length → j < YM.2.1.length → ya Zc i ≠ ya Zm j)
def IsL (b L : Nat) (xs : Nat → Int32) (Zc Zm : Sy) (K N : Nat) (Γ : Nat → List (Nat × Value) → List Value → St → St → Prop) : Prop :=
  ∃ (p : Program) (e : Env) (s : State) (m : MethodId) (below : List Frame) (meth : Method) (c : Code), lFx p s m meth c b L xs Zc Zm ∧
    Γ = fun pc ls st σ τ => ∀ (H : Heap) (lsA : Array Slot), va_P (yD Zc) YC.1 (q_ws YC Zc σ) H → va_P (yD Zm) YM.1 (q_ws YM Zm τ) H → va_S (fun q => s.heap.size ≤ q) s.heap H [] → lv_has lsA 4 ls →
      W p (yl Zc) e room_1 s m #[Value.ref b] below meth c H [] K N (lw_Z below #[Value.ref b] s) (F0 m pc lsA st)
theorem qA_eq {Y : Sd} {Z : Sy} {sz : Nat} (h : ∀ k, k < Y.2.1.length → sz ≤ ya Z k) : qA Y Z sz = fun q => sz ≤ q := by
  funext q
  apply propext
  constructor
  · rintro (⟨k, hk, e⟩ | z)
    · rw [e]; exact h k hk
    · exact z
  · intro z; exact Or.inr z
theorem l_after {Y : Sd} {Z : Sy} {p : Program} {l : Launch} {e : Env} {R : Room} {s : State} {m : MethodId} {args : Array Value} {below : List Frame} {meth : Method} {c : Code} {H : Heap} {K N pc : Nat} {Q : State → Prop} {lsA : Array Slot} {st0 rest : List Value} {ov1 : Option Value} {σ1 : St} {a : Array Value}
    (hr : va_Run p l e R s m args below meth c H [] K N 0 0 (F0 m pc lsA st0) rest (qQ Y Z ov1 σ1 (qA Y Z H.size) a) (qA Y Z H.size)) (hz : ∀ q, qA Y Z H.size q → s.heap.size ≤ q)
    (kk : ∀ (H1 : Heap), H.size ≤ H1.size → (∀ q : Nat, q < H.size → ¬ qA Y Z H.size q → H1[q]? = H[q]?) → va_P (yD Z) Y.1 (q_ws Y Z σ1) H1 → W p l e R s m args below meth c H1 [] K N Q (F0 m (pc + 3) lsA (ov1.toList ++ rest))) : W p l e R s m args below meth c H [] K N Q (F0 m pc lsA st0) := by
  intro T hT X
  obtain ⟨v, st₀, t, T', L, h0, X', hL, e1, e2, ⟨⟨hv, hw⟩, hz1, hk⟩, st⟩ := hr T hT X
  cases hv
  rw [h0] at hz1 hk
  obtain ⟨t2, a1, b1⟩ := va_forget (locs := [] ++ L) (fun q hq => by
      rw [List.nil_append] at hq
      exact hz _ (hL q hq)) (kk T'.heap (by rw [e1]; exact hz1) (fun q h1 h2 => by rw [e1]; exact hk q h1 h2) (by rw [e1]; exact hw.1)) T' rfl X'
  exact ⟨t2, st t2 a1, b1⟩
section LA
variable {b L : Nat} {xs : Nat → Int32} {Zc Zm : Sy} {K N : Nat} {Γ : Nat → List (Nat × Value) → List Value → St → St → Prop}
variable {pc pc' : Nat} {ls ls' : List (Nat × Value)} {st rest : List Value} {σ τ σ1 τ1 : St}
theorem l_world {Y : Sd} {Z Z' : Sy} {Y' : Sd} {H H1 : Heap} {σ : St} (hP : va_P (yD Z) Y.1 (q_ws Y Z σ) H) (hdis : ∀ i j, i < Y.2.1.length → j < Y'.2.1.length → ya Z i ≠ ya Z' j) (hk : ∀ q : Nat, q < H.size → ¬ qA Y' Z' H.size q → H1[q]? = H[q]?) : va_P (yD Z) Y.1 (q_ws Y Z σ) H1 := by
  refine hP.kept (fun k q hq => ?_)
  have hlt : q.1 < H.size := (hP k q hq).lt
  refine hk q.1 hlt ?_
  have : k < Y.2.1.length ∧ q.1 = ya Z k := by
    simp only [q_ws, List.getElem?_mapIdx] at hq
    cases hs : Y.2.1[k]? with
    | none => rw [hs] at hq; cases hq
    | some t =>
      rw [hs] at hq
      simp only [Option.map_some, Option.some.injEq] at hq
      exact ⟨(List.getElem?_eq_some_iff.mp hs).1, by rw [← hq]; exact q_e1 Z σ k t⟩
  rintro (⟨j, hj, e⟩ | z)
  · exact hdis k j this.1 hj (this.2.symm.trans e)
  · omega
set_option maxHeartbeats 1000000 in
theorem l_callC (h : IsL b L xs Zc Zm K N Γ) (hKN : K ≤ 600000 ∧ N ≤ 7302249) {i maxL n d1 : Nat} {y : MethodName} {c1 : ByteArray} {r1 : Option FieldType} {As : List Value} {v : Value} (hL : qLk R_L i y c1 maxL r1 n) (hV : qLkV R_L i y) (hcl : y.cls = R_P) (hd : decode code pc = .ok (.invokevirtual i, 3)) (hdd : d1 < 100) (hn : As.length = n) {st' : List Value} (hst : st' = As.reverse ++ .ref (ya Zc 0) :: rest) (hc : (rest.map fun v => v.category).sum ≤ 8)
    (hm : Ct YC Zc y c1 maxL r1 d1 (.ref (ya Zc 0) :: As) σ (some v) σ1) (k : Γ (pc + 3) ls (v :: rest) σ1 τ) : Γ pc ls st' σ τ := by
  obtain ⟨p, e, s, m, below, meth, c, ⟨⟨hx, hb, hr, hml, hown, hlk⟩, hts, ⟨hX, hbl⟩, ⟨hKc, hKm⟩, hSt, hNw, hyl, ⟨hDc, hDm⟩, ⟨hac, ham⟩, hdis⟩, rfl⟩ := h
  intro H lsA hPc hPm hS hl
  have eA := qA_eq (Y := YC) (Z := Zc) hac
  have hS' : va_S (qA YC Zc s.heap.size) s.heap H [] := by rw [eA]; exact hS
  have hSt' : qS YC Zc (qA YC Zc s.heap.size) s s.heap := by rw [eA]; exact hSt
  have hD' : va_D (qA YC Zc s.heap.size) (q_ws YC Zc σ) := q_D hDc (fun k hk => Or.inl ⟨k, hk, rfl⟩)
  have hmax := hL.2.1
  refine l_after (va_runV (As := As) (rest := rest) (cc := code) (nL := 4) (Ts := tb) (own := R_L) ⟨hx, hb, hml, hown, hts⟩ (hm H.size) (C := y.cls) (bytes := c1) (maxL := maxL) (ret := r1) (n := n) (index := i) ⟨callB_of n hts (q_callGood hL.2.2.2) rfl rfl rfl (hts _ hL.2.2.1) (hts _ hV.1) hL.1 ⟨by show d1 + 1 ≤ 2048; omega, by show 8 + (maxL + 11) + 60 * d1 ≤ 84000; omega⟩, hts _ hV.2.1, hts _ hV.2.2⟩ ⟨q_blind _ _, by rw [hcl]; exact va_recv hKc hPc sh_YC_0.2 (q_at sh_YC_0.1), fun U hU hW => ⟨rfl, q_pre hKc hSt' hNw hPc hD' hS' hU hW⟩⟩ rfl hn hl.1 hst (lv_room hc) hd ⟨by show K + 0 ≤ 600000; omega, by show N + 0 ≤ 7302249; omega⟩) (fun q hq => ?_) (fun H1 hz hk hP1 => ?_)
  · rcases hq with ⟨j, hj, e⟩ | z
    · rw [e]; exact hac j hj
    · exact Nat.le_trans hS.1 z
  · refine k H1 lsA hP1 (l_world hPm (fun i j hi hj z => hdis j i hj hi z.symm) hk) ⟨Nat.le_trans hS.1 hz, fun q h1 h2 => ?_, fun _ hq => by cases hq⟩ hl
    rw [hk q (Nat.lt_of_lt_of_le h1 hS.1) (fun z => h2 (by
      rcases z with ⟨j, hj, e⟩ | z
      · show s.heap.size ≤ q
        rw [e]; exact hac j hj
      · exact Nat.le_trans hS.1 z))]
    exact hS.2.1 q h1 h2
set_option maxHeartbeats 1000000 in
theorem l_callM (h : IsL b L xs Zc Zm K N Γ) (hKN : K ≤ 600000 ∧ N ≤ 7302249) {i maxL n d1 : Nat} {y : MethodName} {c1 : ByteArray} {r1 : Option FieldType} {As : List Value} {v : Value} (hL : qLk R_L i y c1 maxL r1 n) (hV : qLkV R_L i y) (hcl : y.cls = R_M) (hd : decode code pc = .ok (.invokevirtual i, 3)) (hdd : d1 < 100) (hn : As.length = n) {st' : List Value} (hst : st' = As.reverse ++ .ref (ya Zm 0) :: rest) (hc : (rest.map fun v => v.category).sum ≤ 8)
    (hm : Ct YM Zm y c1 maxL r1 d1 (.ref (ya Zm 0) :: As) τ (some v) τ1) (k : Γ (pc + 3) ls (v :: rest) σ τ1) : Γ pc ls st' σ τ := by
  obtain ⟨p, e, s, m, below, meth, c, ⟨⟨hx, hb, hr, hml, hown, hlk⟩, hts, ⟨hX, hbl⟩, ⟨hKc, hKm⟩, hSt, hNw, hyl, ⟨hDc, hDm⟩, ⟨hac, ham⟩, hdis⟩, rfl⟩ := h
  intro H lsA hPc hPm hS hl
  have eA := qA_eq (Y := YM) (Z := Zm) ham
  have hS' : va_S (qA YM Zm s.heap.size) s.heap H [] := by rw [eA]; exact hS
  have hSt' : qS YM Zm (qA YM Zm s.heap.size) s s.heap := fun i x hx => by simp [YM] at hx
  have hNw' : qN YM s := fun w hw => by simp [YM] at hw
  have hD' : va_D (qA YM Zm s.heap.size) (q_ws YM Zm τ) := q_D hDm (fun k hk => Or.inl ⟨k, hk, rfl⟩)
  have hmax := hL.2.1
  have hm' := hm H.size
  rw [← hyl] at hm'
  refine l_after (va_runV (As := As) (rest := rest) (cc := code) (nL := 4) (Ts := tb) (own := R_L) ⟨hx, hb, hml, hown, hts⟩ hm' (C := y.cls) (bytes := c1) (maxL := maxL) (ret := r1) (n := n) (index := i) ⟨callB_of n hts (q_callGood hL.2.2.2) rfl rfl rfl (hts _ hL.2.2.1) (hts _ hV.1) hL.1 ⟨by show d1 + 1 ≤ 2048; omega, by show 8 + (maxL + 11) + 60 * d1 ≤ 84000; omega⟩, hts _ hV.2.1, hts _ hV.2.2⟩ ⟨q_blind _ _, by rw [hcl]; exact va_recv hKm hPm sh_YM_0.2 (q_at sh_YM_0.1), fun U hU hW => ⟨rfl, q_pre hKm hSt' hNw' hPm hD' hS' hU hW⟩⟩ rfl hn hl.1 hst (lv_room hc) hd ⟨by show K + 0 ≤ 600000; omega, by show N + 0 ≤ 7302249; omega⟩) (fun q hq => ?_) (fun H1 hz hk hP1 => ?_)
  · rcases hq with ⟨j, hj, e⟩ | z
    · rw [e]; exact ham j hj
    · exact Nat.le_trans hS.1 z
  · refine k H1 lsA (l_world hPc hdis hk) hP1 ⟨Nat.le_trans hS.1 hz, fun q h1 h2 => ?_, fun _ hq => by cases hq⟩ hl
    rw [hk q (Nat.lt_of_lt_of_le h1 hS.1) (fun z => h2 (by
      rcases z with ⟨j, hj, e⟩ | z
      · show s.heap.size ≤ q
        rw [e]; exact ham j hj
      · exact Nat.le_trans hS.1 z))]
    exact hS.2.1 q h1 h2
/-! the pushes -/
def pl (k : Nat) : Nat := if k ≤ 5 then 1 else 2
def psh (k : Nat) : Instr := if k ≤ 5 then .iconst k else .bipush k
def aDb : Nat → Nat → Nat → Bool
  | 0, _, _ => true
  | n + 1, k, pc => decide (decode code pc = .ok (.aload_n 0, 1)) && (decide (decode code (pc + 1) = .ok (.iload_n 3, 1)) && (decide (decode code (pc + 2) = .ok (psh k, pl k)) && (decide (decode code (pc + 2 + pl k) = .ok (.iadd, 1)) && (decide (decode code (pc + 2 + pl k + 1) = .ok (.iaload, 1)) && aDb n (k + 1) (pc + 2 + pl k + 2)))))
def aEnd : Nat → Nat → Nat → Nat
  | 0, _, pc => pc
  | n + 1, k, pc => aEnd n (k + 1) (pc + 2 + pl k + 2)
def aVs (xs : Nat → Int32) (i : Nat) : Nat → Nat → List Value
  | 0, _ => []
  | n + 1, k => .int (xs (i + k)) :: aVs xs i n (k + 1)
theorem l_args (h : IsL b L xs Zc Zm K N Γ) {i : Nat} (hi : i + 8 ≤ L) (hL : L ≤ 4096) : ∀ n k pc st, k + n ≤ 8 → aDb n k pc = true → Γ (aEnd n k pc) (lsL b Zc Zm (nI i)) ((aVs xs i n k).reverse ++ st) σ τ → Γ pc (lsL b Zc Zm (nI i)) st σ τ := by
  intro n
  induction n with
  | zero => intro k pc st _ _ g; exact g
  | succ n ih =>
    intro k pc st hk hd g
    simp only [aDb, Bool.and_eq_true, decide_eq_true_eq] at hd
    obtain ⟨d1, d2, d3, d4, d5, d6⟩ := hd
    have g' : Γ (pc + 2 + pl k + 2) (lsL b Zc Zm (nI i)) (.int (xs (i + k)) :: st) σ τ := by
      refine ih (k + 1) _ _ (by omega) d6 ?_
      simp only [aEnd, aVs, List.reverse_cons, List.append_assoc, List.singleton_append] at g
      exact g
    clear ih g d6
    obtain ⟨p, e, s, m, below, meth, c, ⟨⟨hx, hb, hr, hml, hown, hlk⟩, hts, ⟨hX, hbl⟩, ⟨hKc, hKm⟩, hSt, hNw, hyl, ⟨hDc, hDm⟩, ⟨hac, ham⟩, hdis⟩, rfl⟩ := h
    intro H lsA hPc hPm hS hl
    refine lv_aload_n hx hb d1 rfl (lv_at hl 3 rfl) ?_
    refine lv_iload_n hx hb d2 rfl (lv_at hl 0 rfl) ?_
    have fin : W p (yl Zc) e room_1 s m #[Value.ref b] below meth c H [] K N (lw_Z below #[Value.ref b] s) (F0 m (pc + 1 + 1 + pl k) lsA (.int (nI k) :: .int (nI i) :: .ref b :: st)) := by
      refine lv_iadd hx hb (by rw [show pc + 1 + 1 + pl k = pc + 2 + pl k by omega]; exact d4) ?_
      have e1 : nI i + nI k = nI (i + k) := nI_add i k
      rw [e1]
      refine va_sld hx hb hX hbl (A := fun q => s.heap.size ≤ q) (Nat.not_le.mpr hbl) hS (by exact vp_in_nI (by omega) (by omega)) (by rw [show pc + 1 + 1 + pl k + 1 = pc + 2 + pl k + 1 by omega]; exact d5) ?_
      rw [n_tn (by omega)]
      rw [show pc + 1 + 1 + pl k + 1 + 1 = pc + 2 + pl k + 2 by omega]
      exact g' H lsA hPc hPm hS hl
    unfold psh at d3
    unfold pl at d3 fin
    by_cases q : k ≤ 5
    · rw [if_pos q, if_pos q] at d3
      rw [if_pos q] at fin
      exact lv_iconst hx hb d3 rfl fin
    · rw [if_neg q, if_neg q] at d3
      rw [if_neg q] at fin
      have e2 : (Int8.ofInt (k : Int)).toInt32 = nI k := by
        rcases (show k = 6 ∨ k = 7 by omega) with z | z <;> subst z <;> decide
      exact lv_bipush hx hb d3 e2 fin
theorem l_aload1 (h : IsL b L xs Zc Zm K N Γ) {i : Int32} (hd : decode code pc = .ok (.aload_n 1, 1)) (g : Γ (pc + 1) (lsL b Zc Zm i) (.ref (ya Zc 0) :: st) σ τ) : Γ pc (lsL b Zc Zm i) st σ τ := by
  obtain ⟨p, e, s, m, below, meth, c, ⟨⟨hx, hb, hr, hml, hown, hlk⟩, hrest⟩, rfl⟩ := h
  exact fun H lsA hPc hPm hS hl => lv_aload_n hx hb hd rfl (lv_at hl 2 rfl) (g H lsA hPc hPm hS hl)
theorem l_aload2 (h : IsL b L xs Zc Zm K N Γ) {i : Int32} (hd : decode code pc = .ok (.aload_n 2, 1)) (g : Γ (pc + 1) (lsL b Zc Zm i) (.ref (ya Zm 0) :: st) σ τ) : Γ pc (lsL b Zc Zm i) st σ τ := by
  obtain ⟨p, e, s, m, below, meth, c, ⟨⟨hx, hb, hr, hml, hown, hlk⟩, hrest⟩, rfl⟩ := h
  exact fun H lsA hPc hPm hS hl => lv_aload_n hx hb hd rfl (lv_at hl 1 rfl) (g H lsA hPc hPm hS hl)
theorem l_eqI (h : IsL b L xs Zc Zm K N Γ) {v : Int32} {off : Int} {tgt : Nat} (hd : decode code pc = .ok (.if_icmp .eq off, 3) ∧ (pc : Int) + off = (tgt : Int)) (g : Γ tgt ls st σ τ) : Γ pc ls (.int v :: .int v :: st) σ τ := by
  obtain ⟨p, e, s, m, below, meth, c, ⟨⟨hx, hb, hr, hml, hown, hlk⟩, hrest⟩, rfl⟩ := h
  exact fun H lsA hPc hPm hS hl => lv_icmp_eq hx hb hd.1 hd.2 (fun _ => g H lsA hPc hPm hS hl) (fun z => absurd rfl z)
end LA
