section CA
variable {Y : Sd} {Z : Sy} {own : String} {cc : ByteArray} {nL d : Nat} {ret : Option FieldType} {ov : Option Value} {σ' : St} {Γ : Nat → List (Nat × Value) → List Value → St → Prop}
variable {pc pc' : Nat} {ls ls' : List (Nat × Value)} {st rest : List Value} {σ : St}
variable {α : Type} {A B : Option α} {res : α} {tgt : Nat}
theorem q_sub {Y : Sd} {Z : Sy} {a b : Nat} (h : a ≤ b) (q : Nat) (hq : qA Y Z b q) : qA Y Z a q := by
  rcases hq with hq | hq
  · exact Or.inl hq
  · exact Or.inr (Nat.le_trans h hq)
/-- the world at a call: from the walk's state to the callee's start -/
theorem q_pre {s U : State} {H : Heap} {locs : List Loc} (hK : va_K (yD Z) Y.1 (yt Z) s) (hSt : qS Y Z (qA Y Z s.heap.size) s s.heap) (hNw : qN Y s) (hP : va_P (yD Z) Y.1 (q_ws Y Z σ) H) (hD : va_D (qA Y Z s.heap.size) (q_ws Y Z σ)) (hS : va_S (qA Y Z s.heap.size) s.heap H locs) (hU : U.heap = H) (hW : s.WarmedH U.vm) : qPre Y Z σ H.size U := by
  refine ⟨by rw [hU], ⟨by rw [hU]; exact hP, va_K.moved hW.alike hK, q_D hD (fun k hk => Or.inl ⟨k, hk, rfl⟩)⟩, fun i x hx => ?_, fun w hw => ?_⟩
  · obtain ⟨h1, h2⟩ := hSt i x hx
    have hkept : ∀ a : Nat, a < s.heap.size → ¬ qA Y Z s.heap.size a → H[a]? = s.heap[a]? := fun a h1 h2 => hS.2.1 a h1 h2
    rw [hU]
    exact ⟨((va_Z.moved hW.alike h1).kept hkept).narrow (q_sub hS.1), ((va_T.moved hW.alike h2).kept hkept).narrow (q_sub hS.1)⟩
  · obtain ⟨h1, a, i, x, hh, rfl⟩ := hNw w hw
    exact ⟨va_Nw.warmM hW h1, a, i, x, hh, rfl⟩
theorem q_blind (av : List Value) (sz : Nat) : FrameBlind (va_Pc av (qPre Y Z σ sz)) := by
  intro a U g mk q
  obtain ⟨q0, q1, ⟨qP, qK, qD⟩, qs, qn⟩ := q
  refine ⟨q0, q1, ⟨qP, va_K.moved (u := U) (U := U.calling g mk a) (Vm.Alike.refl U.vm) qK, qD⟩, fun i x hx => ?_, fun w hw => ?_⟩
  · obtain ⟨h1, h2⟩ := qs i x hx
    exact ⟨va_Z.moved (u := U) (U := U.calling g mk a) (Vm.Alike.refl U.vm) h1, va_T.moved (u := U) (U := U.calling g mk a) (Vm.Alike.refl U.vm) h2⟩
  · obtain ⟨h1, x1, i, x, hh, rfl⟩ := qn w hw
    exact ⟨va_Nw.same rfl (u := U) (U := U.calling g mk a) rfl h1, x1, i, x, hh, rfl⟩
theorem q_after {p : Program} {e : Env} {R : Room} {s : State} {m : MethodId} {args : Array Value} {below : List Frame} {meth : Method} {c : Code} {H : Heap} {locs : List Loc} {Q : State → Prop} {lsA : Array Slot} {st0 : List Value} {ov1 : Option Value} {σ1 : St} {a : Array Value}
    (hr : va_Run p (yl Z) e R s m args below meth c H locs 0 0 0 0 (F0 m pc lsA st0) rest (qQ Y Z ov1 σ1 (qA Y Z H.size) a) (qA Y Z H.size)) (hS : va_S (qA Y Z s.heap.size) s.heap H locs)
    (kk : ∀ (H1 : Heap) (locs1 : List Loc), va_P (yD Z) Y.1 (q_ws Y Z σ1) H1 → va_D (qA Y Z s.heap.size) (q_ws Y Z σ1) → va_S (qA Y Z s.heap.size) s.heap H1 locs1 → W p (yl Z) e R s m args below meth c H1 locs1 0 0 Q (F0 m (pc + 3) lsA (ov1.toList ++ rest))) : W p (yl Z) e R s m args below meth c H locs 0 0 Q (F0 m pc lsA st0) := by
  intro T hT X
  obtain ⟨v, st₀, t, T', L, h0, X', hL, e1, e2, ⟨⟨hv, hw⟩, hz, hk⟩, st⟩ := hr T hT X
  cases hv
  rw [h0] at hz hk
  have hs := fun q => q_sub (Y := Y) (Z := Z) hS.1 q
  obtain ⟨t2, a1, b1⟩ := kk T'.heap (locs ++ L) (by rw [e1]; exact hw.1) (q_D hw.2.2 (fun k hk => Or.inl ⟨k, hk, rfl⟩))
    ⟨Nat.le_trans hS.1 (by rw [e1]; exact hz), fun q h1 h2 => by rw [e1, hk q (Nat.lt_of_lt_of_le h1 hS.1) (fun z => h2 (hs q z))]; exact hS.2.1 q h1 h2, fun q hq => by
      rcases List.mem_append.mp hq with h | h
      · exact hS.2.2 q h
      · exact hs _ (hL q h)⟩ T' rfl X'
  exact ⟨t2, st t2 a1, b1⟩
def qLk (own : String) (i : Nat) (y : MethodName) (cc : ByteArray) (maxL : Nat) (r : Option FieldType) (n : Nat) : Prop := (y.cls ≠ "java/lang/invoke/MethodHandle" ∧ y.cls ≠ "java/lang/invoke/VarHandle" ∧ (parseMethodDescriptor y.desc).map (fun d => d.parameters.length) = some n) ∧ maxL ≤ 40 ∧ Cond.initialized y.cls ∈ tb ∧ Cond.code y cc maxL r ∈ tb
def qLkV (own : String) (i : Nat) (y : MethodName) : Prop := Cond.methodLink own i y ∈ tb ∧ Cond.instanceMethod y ∈ tb ∧ Cond.selects y.cls y y ∈ tb
def qLkS (own : String) (i : Nat) (y : MethodName) : Prop := Cond.methodLink own i y ∈ tb ∧ Cond.static y ∈ tb
def qLkN (Y : Sd) (own : String) (i : Nat) (y : MethodName) (host : String) : Prop := Cond.methodLinkNest own i y host ∈ Y.2.2.2 ∧ Cond.static y ∈ tb
theorem q_room {d d1 maxL : Nat} (h : d1 < d) (hm : maxL ≤ 40) : (qR d1).frames + 1 ≤ (qR d).frames ∧ 8 + (maxL + 11) + (qR d1).locals ≤ (qR d).locals := by
  constructor
  · exact h
  · show 8 + (maxL + 11) + 60 * d1 ≤ 60 * d
    omega
theorem q_callGood {y : MethodName} {cc : ByteArray} {maxL : Nat} {r : Option FieldType} (h : Cond.code y cc maxL r ∈ tb) : GoodIn tb (Cond.code y cc maxL r :: tb) := by
  refine q_goodI (fun w hw => ?_)
  rcases List.mem_cons.mp hw with e | e
  · rw [e]; exact h
  · exact e
set_option maxHeartbeats 1000000 in
theorem r_callV (h : IsG Y Z own cc nL d ret ov σ' Γ) {k0 ci i maxL n d1 N : Nat} {fl : List (Option Nat)} {T : u_T} {y : MethodName} {c1 : ByteArray} {r1 : Option FieldType} {As : List Value} {ov1 : Option Value} {σ1 : St}
    (hs : Y.2.1[k0]? = some (.inl (ci, fl)) ∧ Y.1[ci]? = some (y.cls, T, N)) (hL : qLk own i y c1 maxL r1 n) (hV : qLkV own i y) (hd : decode cc pc = .ok (.invokevirtual i, 3) ∧ pc + 3 = pc') (hdd : d1 < d) (hn : As.length = n) (hst : st = As.reverse ++ .ref (ya Z k0) :: rest) (hc : (rest.map fun v => v.category).sum ≤ 8)
    (hm : Ct Y Z y c1 maxL r1 d1 (.ref (ya Z k0) :: As) σ ov1 σ1) (k : Γ pc' ls (ov1.toList ++ rest) σ1) : Γ pc ls st σ := by
  obtain ⟨p, e, s, m, args, below, meth, c, ⟨hx, hb, hml, hown, hr, hlk⟩, hts, hK, hSt, hNw, rfl⟩ := h
  obtain ⟨hd, rfl⟩ := hd
  intro H locs lsA hP hD hS hl
  refine q_after (va_runV (As := As) (rest := rest) (cc := cc) (nL := nL) (Ts := tb) (own := own) ⟨hx, hb, hml, hown, hts⟩ (hm H.size) (C := y.cls) (bytes := c1) (maxL := maxL) (ret := r1) (n := n) (index := i) ⟨callB_of n hts (q_callGood hL.2.2.2) rfl rfl rfl (hts _ hL.2.2.1) (hts _ hV.1) hL.1 (q_room hdd hL.2.1), hts _ hV.2.1, hts _ hV.2.2⟩ ⟨q_blind _ _, va_recv hK hP hs.2 (q_at hs.1), fun U hU hW => ⟨rfl, q_pre hK hSt hNw hP hD hS hU hW⟩⟩ rfl hn hl.1 hst (lv_room hc) hd ⟨Nat.le_refl _, Nat.le_refl _⟩) hS (fun H1 l1 hP1 hD1 hS1 => k H1 l1 lsA hP1 hD1 hS1 hl)
set_option maxHeartbeats 1000000 in
theorem r_callS (h : IsG Y Z own cc nL d ret ov σ' Γ) {i maxL n d1 : Nat} {y : MethodName} {c1 : ByteArray} {r1 : Option FieldType} {As : List Value} {ov1 : Option Value} {σ1 : St}
    (hL : qLk own i y c1 maxL r1 n) (hV : qLkS own i y) (hd : decode cc pc = .ok (.invokestatic i, 3) ∧ pc + 3 = pc') (hdd : d1 < d) (hn : As.length = n) (hst : st = As.reverse ++ rest) (hc : (rest.map fun v => v.category).sum ≤ 8)
    (hm : Ct Y Z y c1 maxL r1 d1 As σ ov1 σ1) (k : Γ pc' ls (ov1.toList ++ rest) σ1) : Γ pc ls st σ := by
  obtain ⟨p, e, s, m, args, below, meth, c, ⟨hx, hb, hml, hown, hr, hlk⟩, hts, hK, hSt, hNw, rfl⟩ := h
  obtain ⟨hd, rfl⟩ := hd
  intro H locs lsA hP hD hS hl
  refine q_after (va_runS (As := As) (rest := rest) (cc := cc) (nL := nL) (Ts := tb) (own := own) ⟨hx, hb, hml, hown, hts⟩ (hm H.size) (bytes := c1) (maxL := maxL) (ret := r1) (n := n) (index := i) ⟨callB_of n hts (q_callGood hL.2.2.2) rfl rfl rfl (hts _ hL.2.2.1) (hts _ hV.1) hL.1 (q_room hdd hL.2.1), hts _ hV.2⟩ ⟨q_blind _ _, fun U hU hW => ⟨rfl, q_pre hK hSt hNw hP hD hS hU hW⟩⟩ rfl hn hl.1 hst (lv_room hc) hd ⟨Nat.le_refl _, Nat.le_refl _⟩) hS (fun H1 l1 hP1 hD1 hS1 => k H1 l1 lsA hP1 hD1 hS1 hl)
set_option maxHeartbeats 1000000 in
theorem r_callN (h : IsG Y Z own cc nL d ret ov σ' Γ) {i maxL n d1 : Nat} {y : MethodName} {host : String} {c1 : ByteArray} {r1 : Option FieldType} {As : List Value} {ov1 : Option Value} {σ1 : St}
    (hL : qLk own i y c1 maxL r1 n) (hV : qLkN Y own i y host) (hd : decode cc pc = .ok (.invokestatic i, 3) ∧ pc + 3 = pc') (hdd : d1 < d) (hn : As.length = n) (hst : st = As.reverse ++ rest) (hc : (rest.map fun v => v.category).sum ≤ 8)
    (hm : Ct Y Z y c1 maxL r1 d1 As σ ov1 σ1) (k : Γ pc' ls (ov1.toList ++ rest) σ1) : Γ pc ls st σ := by
  obtain ⟨p, e, s, m, args, below, meth, c, ⟨hx, hb, hml, hown, hr, hlk⟩, hts, hK, hSt, hNw, rfl⟩ := h
  obtain ⟨hd, rfl⟩ := hd
  intro H locs lsA hP hD hS hl
  refine q_after (va_runSN (As := As) (rest := rest) (cc := cc) (nL := nL) (Ts := tb) (own := own) ⟨hx, hb, hml, hown, hts⟩ (hm H.size) (bytes := c1) (maxL := maxL) (ret := r1) (n := n) (index := i) (host := host) ⟨va_cnB n hts (q_callGood hL.2.2.2) rfl rfl rfl (hNw _ hV.1).1 (hts _ hL.2.2.1) hL.1 (q_room hdd hL.2.1), hts _ hV.2, trivial⟩ ⟨q_blind _ _, fun U hU hW => ⟨rfl, q_pre hK hSt hNw hP hD hS hU hW⟩⟩ rfl hn hl.1 hst (lv_room hc) hd ⟨Nat.le_refl _, Nat.le_refl _⟩) hS (fun H1 l1 hP1 hD1 hS1 => k H1 l1 lsA hP1 hD1 hS1 hl)
/-- the switches: by the number asked -/
theorem r_tab (h : IsG Y Z own cc nL d ret ov σ' Γ) {dflt lo hi : Int} {offs : Array Int} {len : Nat} {x : Int32} {off : Int} (q : Int32) (hq : x = q) (hd : decode cc pc = .ok (.tableswitch dflt lo hi offs, len)) (ho : ¬ q.toInt < lo ∧ ¬ hi < q.toInt ∧ offs[(q.toInt - lo).toNat]? = some off ∧ (pc : Int) + off = (tgt : Int)) (k : Γ tgt ls st σ) : Γ pc ls (.int x :: st) σ := by
  subst hq
  obtain ⟨p, e, s, m, args, below, meth, c, ⟨hx, hb, hml, hown, hr, hlk⟩, hts, hK, hSt, hNw, rfl⟩ := h
  exact fun H locs lsA hP hD hS hl => lv_tableIn hx hb hd ho.1 ho.2.1 ho.2.2.1 ho.2.2.2 (k H locs lsA hP hD hS hl)
theorem r_tabD (h : IsG Y Z own cc nL d ret ov σ' Γ) {dflt lo hi : Int} {offs : Array Int} {len : Nat} {x : Int32} (hd : decode cc pc = .ok (.tableswitch dflt lo hi offs, len)) (ho : (x.toInt < lo ∨ hi < x.toInt)) (ht : (pc : Int) + dflt = (tgt : Int)) (k : Γ tgt ls st σ) : Γ pc ls (.int x :: st) σ := by
  obtain ⟨p, e, s, m, args, below, meth, c, ⟨hx, hb, hml, hown, hr, hlk⟩, hts, hK, hSt, hNw, rfl⟩ := h
  exact fun H locs lsA hP hD hS hl => lv_tableOut hx hb hd ho ht (k H locs lsA hP hD hS hl)
theorem r_look (h : IsG Y Z own cc nL d ret ov σ' Γ) {dflt : Int} {ps : Array (Int × Int)} {len : Nat} {x : Int32} {off : Int} (hd : decode cc pc = .ok (.lookupswitch dflt ps, len)) (hp : (ps.toList.zip (ps.toList.drop 1)).all (fun (a, next) => a.1 < next.1) = true) (ho : Op.lookupswitch.offset ps.toList dflt x.toInt = off) (ht : (pc : Int) + off = (tgt : Int)) (k : Γ tgt ls st σ) : Γ pc ls (.int x :: st) σ := by
  obtain ⟨p, e, s, m, args, below, meth, c, ⟨hx, hb, hml, hown, hr, hlk⟩, hts, hK, hSt, hNw, rfl⟩ := h
  exact fun H locs lsA hP hD hS hl => lv_lookup hx hb hd hp ho ht (k H locs lsA hP hD hS hl)
theorem q_case {G : Prop} {x q : Int32} (hf : (if x = q then A else B) = some res) (k1 : x = q → A = some res → G) (k2 : ¬ x = q → B = some res → G) : G := by
  by_cases h : x = q
  · exact k1 h ((if_pos h).symm.trans hf)
  · exact k2 h ((if_neg h).symm.trans hf)
theorem q_bind {β : Type} {x : Option β} {f : β → Option α} (h : x.bind f = some res) : ∃ a, x = some a ∧ f a = some res := Option.bind_eq_some_iff.mp h
theorem q_ck {G : Prop} {P : Prop} {dc : Decidable P} (hf : (@ite _ P dc A none) = some res) (k : P → A = some res → G) : G := by
  by_cases h : P
  · exact k h ((if_pos h).symm.trans hf)
  · rw [if_neg h] at hf; cases hf
theorem q_div {G : Prop} {P : Prop} {dc : Decidable P} (hf : (@ite _ P dc none A) = some res) (k : ¬ P → A = some res → G) : G := by
  by_cases h : P
  · rw [if_pos h] at hf; cases hf
  · exact k h ((if_neg h).symm.trans hf)
theorem q_neI {x q : Int32} (h : ¬ x = q) : x.toInt ≠ q.toInt := fun z => h (Int32.toInt_inj.mp z)
end CA
