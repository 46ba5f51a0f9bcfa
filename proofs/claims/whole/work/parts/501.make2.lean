theorem kW_at {cI cJ : ClassId} {ci : Nat} {fl : List (Option Nat)} {arr : List (Nat × Bool)} {F : Nat → Nat → Int32} {a : Nat → Nat} {k t N : Nat} (ht : t < k) (hx : arr[t]? = some (N, false)) : (kW cI cJ ci fl arr F a k)[t + 1]? = some (a (t + 1), .inl (cI, N, .inl (F (t + 1)))) := by
  unfold kW kA
  rw [List.getElem?_cons_succ, List.getElem?_mapIdx, List.getElem?_take, if_pos ht, hx]
  rfl
theorem kW_set {cI cJ : ClassId} {ci : Nat} {fl : List (Option Nat)} {arr : List (Nat × Bool)} {F : Nat → Nat → Int32} {a : Nat → Nat} {k t N : Nat} {g : Nat → Int32} (ht : t < k) (hx : arr[t]? = some (N, false)) : (kW cI cJ ci fl arr F a k).set (t + 1) (a (t + 1), .inl (cI, N, .inl g)) = kW cI cJ ci fl arr (fun i => if i = t + 1 then g else F i) a k := by
  unfold kW
  rw [List.set_cons_succ]
  congr 1
  unfold kA
  apply List.ext_getElem?
  intro i
  rw [List.getElem?_set, List.getElem?_mapIdx, List.getElem?_mapIdx]
  have hl : t < arr.length := (List.getElem?_eq_some_iff.mp hx).1
  by_cases e : t = i
  · subst e
    rw [if_pos rfl, if_pos (by rw [List.length_mapIdx, List.length_take]; omega), List.getElem?_take, if_pos ht, hx]
    simp only [Option.map_some, if_pos]
    rfl
  · rw [if_neg e]
    cases (arr.take k)[i]? with
    | none => rfl
    | some y => simp only [Option.map_some, if_neg (show ¬ i + 1 = t + 1 by omega)]
section KS
variable {l : Launch} {D : va_G} {cl : List vw_C} {cI cJ : ClassId} {own : String} {cc : ByteArray} {nL : Nat} {R : Room} {h0 : Nat} {e0 : va_E} {W1 : (Nat → Nat) → va_W} {mc ms : Nat} {Γ : Nat → List (Nat × Value) → List Value → va_W → Nat → Nat → Prop}
variable {pc pc' : Nat} {ls ls' : List (Nat × Value)} {st : List Value} {ws : va_W} {k n : Nat}
theorem k_iastL (h : IsK l D cl cI cJ own cc nL R h0 e0 W1 mc ms Γ) {a N : Nat} {f : Nat → Int32} {i x : Int32} (hin : inb i N) (hd : decode cc pc = .ok (.iastore, 1) ∧ pc + 1 = pc') (g : Γ pc' ls st (ws ++ [(a, .inl (cI, N, .inl (upd f i.toNatClampNeg x)))]) k n) : Γ pc ls (.int x :: .int i :: .ref a :: st) (ws ++ [(a, .inl (cI, N, .inl f))]) k n :=
  k_iast h ws.length (f := f) (by simp) hin (by simp) hd g
theorem k_iastW (h : IsK l D cl cI cJ own cc nL R h0 e0 W1 mc ms Γ) {ci t N b : Nat} {fl : List (Option Nat)} {arr : List (Nat × Bool)} {F : Nat → Nat → Int32} {a : Nat → Nat} {kk : Nat} {i x : Int32} (ht : t < kk) (hx : arr[t]? = some (N, false)) (hb : b = a (t + 1)) (hin : inb i N) (hd : decode cc pc = .ok (.iastore, 1) ∧ pc + 1 = pc') (g : Γ pc' ls st (kW cI cJ ci fl arr (fun i' => if i' = t + 1 then upd (F (t + 1)) i.toNatClampNeg x else F i') a kk) k n) : Γ pc ls (.int x :: .int i :: .ref b :: st) (kW cI cJ ci fl arr F a kk) k n := by
  subst hb
  exact k_iast h (t + 1) (kW_at ht hx) hin (kW_set ht hx) hd g
/-- what a callee makes beside what stands -/
theorem k_join {A : Nat → Prop} {ws w1 : va_W} {H H1 : Heap} {q : Nat} {x : va_E} (hP : va_P D cl (ws ++ [(q, x)]) H) (hD : va_D A (ws ++ [(q, x)])) (hA : ∀ z, va_A [(q, x)] H.size z → A z) (hk : ∀ z : Nat, z < H.size → ¬ va_A [(q, x)] H.size z → H1[z]? = H[z]?) (hP1 : va_P D cl w1 H1) (hD1 : va_D (va_A [(q, x)] H.size) w1) : va_P D cl (ws ++ w1) H1 ∧ va_D A (ws ++ w1) := by
  have ap : ∀ (i : Nat) (y : Nat × va_E), ws[i]? = some y → y.1 < H.size ∧ ¬ va_A [(q, x)] H.size y.1 := by
    intro i y hy
    have hi : i < ws.length := (List.getElem?_eq_some_iff.mp hy).1
    have hy' : (ws ++ [(q, x)])[i]? = some y := by rw [List.getElem?_append_left hi]; exact hy
    have lt : y.1 < H.size := (hP i y hy').lt
    refine ⟨lt, ?_⟩
    rintro (⟨t, e, ht⟩ | z)
    · have t0 : t = 0 := by
        have := (List.getElem?_eq_some_iff.mp ht).1
        simp at this
        exact this
      subst t0
      simp at ht
      have e2 : (ws ++ [(q, x)])[ws.length]? = some (q, x) := by simp
      have := hD.1 i ws.length y (q, x) hy' e2 ht.1.symm
      omega
    · omega
  refine ⟨va_P.app (va_P.kept (H := H) (fun i y hy => ?_) (fun i y hy => ?_)) hP1, va_D.app ⟨fun i j p q' hp hq hpq => ?_, fun i y hy => ?_⟩ ⟨hD1.1, fun i y hy => hA _ (hD1.2 i y hy)⟩ (fun i j p q' hp hq' z => ?_)⟩
  · have hi : i < ws.length := (List.getElem?_eq_some_iff.mp hy).1
    exact hP i y (by rw [List.getElem?_append_left hi]; exact hy)
  · obtain ⟨a1, a2⟩ := ap i y hy
    exact hk y.1 a1 a2
  · have hi : i < ws.length := (List.getElem?_eq_some_iff.mp hp).1
    have hj : j < ws.length := (List.getElem?_eq_some_iff.mp hq).1
    exact hD.1 i j p q' (by rw [List.getElem?_append_left hi]; exact hp) (by rw [List.getElem?_append_left hj]; exact hq) hpq
  · have hi : i < ws.length := (List.getElem?_eq_some_iff.mp hy).1
    exact hD.2 i y (by rw [List.getElem?_append_left hi]; exact hy)
  · exact (ap i p hp).2 (z ▸ hD1.2 j q' hq')
theorem k_blind (h0 : Nat) (As : List Value) (e0 : va_E) (sz : Nat) : FrameBlind (va_Pc (.ref h0 :: As) (kPre D cl cI cJ h0 e0 sz)) := by
  intro a U g mk q
  obtain ⟨q0, q1, qP, qK, qD⟩ := q
  exact ⟨q0, q1, qP, va_K.moved (u := U) (U := U.calling g mk a) (Vm.Alike.refl U.vm) qK, qD⟩
set_option maxHeartbeats 1000000 in
/-- new C; (its arguments stand ready to be pushed;) dup is left to the walk -/
theorem k_new (h : IsK l D cl cI cJ own cc nL R h0 e0 W1 mc ms Γ) {C : String} {T : u_T} {N ci i : Nat} {ty : Nat → FieldType} {fs : List Value} (hc : cl[ci]? = some (C, T, N)) (hq : qCl C T N ty) (hw : Cond.classLink own i C ∈ tb ∧ Cond.instantiable C N ∈ tb ∧ Cond.initialized C ∈ tb) (hfs : ∀ j, j < N → defaultValue (ty j) = vp_V fs j) (hR : k + 1 ≤ R.cells ∧ n + N ≤ R.slots) (hd : decode cc pc = .ok (.new i, 3) ∧ pc + 3 = pc') (g : ∀ q : Nat, Γ pc' ls (.ref q :: st) (ws ++ [(q, .inr (ci, fs))]) (k + 1) (n + N)) : Γ pc ls st ws k n := by
  obtain ⟨p, e, s, m, args, below, meth, c, ⟨hx, hb, hml, hown, hr, hlk, hnm⟩, hts, hK, rfl⟩ := h
  obtain ⟨hd, rfl⟩ := hd
  intro H locs lsA hP hD hS hl
  exact va_new (ci := ci) (fs := fs) (C := C) (T := T) (N := N) hx hb hts hq.1 ty hq.2.1 hown (hts _ hw.1) (hts _ hw.2.1) (hts _ hw.2.2) hK hP hD hS (fun q hq => Or.inr hq) hc hfs hR.1 hR.2 hd (fun q H1 hP1 hD1 hS1 => g q H1 locs lsA hP1 hD1 hS1 hl)
set_option maxHeartbeats 1000000 in
theorem k_init (h : IsK l D cl cI cJ own cc nL R h0 e0 W1 mc ms Γ) {y : MethodName} {c1 : ByteArray} {maxL i N q mc1 ms1 : Nat} {R1 : Room} {As : List Value} {x : va_E} {W2 : (Nat → Nat) → va_W} (hm : CtK l D cl cI cJ y c1 maxL R1 q As x W2 mc1 ms1) (hw : Cond.methodLink own i y ∈ tb ∧ Cond.instanceMethod y ∈ tb ∧ Cond.initialized y.cls ∈ tb ∧ Cond.code y c1 maxL none ∈ tb) (hy : y.name = "<init>" ∧ y.cls ≠ "java/lang/invoke/MethodHandle" ∧ y.cls ≠ "java/lang/invoke/VarHandle" ∧ (parseMethodDescriptor y.desc).map (fun d => d.parameters.length) = some N) (hN : As.length = N) (hR1 : R1.cells = mc1 ∧ R1.slots = ms1 ∧ R1.frames + 1 ≤ R.frames ∧ 8 + (maxL + 11) + R1.locals ≤ R.locals) (hR : k + mc1 ≤ R.cells ∧ n + ms1 ≤ R.slots) {st' : List Value} (hst : st' = As.reverse ++ .ref q :: st) (hcat : (st.map fun v => v.category).sum ≤ 8) (hd : decode cc pc = .ok (.invokespecial i, 3) ∧ pc + 3 = pc') (g : ∀ a : Nat → Nat, a 0 = q → Γ pc' ls st (ws ++ W2 a) (k + mc1) (n + ms1)) : Γ pc ls st' (ws ++ [(q, x)]) k n := by
  obtain ⟨p, e, s, m, args, below, meth, c, ⟨hx, hb, hml, hown, hr, hlk, hnm⟩, hts, hK, rfl⟩ := h
  obtain ⟨hd, rfl⟩ := hd
  intro H locs lsA hP hD hS hl
  have hPc : va_P D cl [(q, x)] H := fun t z hz => by
    have t0 : t = 0 := by
      have := (List.getElem?_eq_some_iff.mp hz).1
      simp at this
      exact this
    subst t0
    exact hP ws.length z (by simpa using hz)
  have hDc : va_D (fun _ => True) [(q, x)] := ⟨fun i j p1 q1 hp1 hq1 _ => by
    have := (List.getElem?_eq_some_iff.mp hp1).1
    have := (List.getElem?_eq_some_iff.mp hq1).1
    simp at *
    omega, fun _ _ _ => trivial⟩
  have hFc : ∀ z, va_A [(q, x)] H.size z → va_A [(h0, e0)] s.heap.size z := by
    rintro z (⟨t, e, ht⟩ | z1)
    · have t0 : t = 0 := by
        have := (List.getElem?_eq_some_iff.mp ht).1
        simp at this
        exact this
      subst t0
      simp at ht
      have e2 : (ws ++ [(q, x)])[ws.length]? = some (q, x) := by simp
      have := hD.2 ws.length (q, x) e2
      rw [← ht.1]
      exact this
    · exact Or.inr (Nat.le_trans hS.1 z1)
  refine va_callv (va_runI (As := As) (rest := st) (cc := cc) (nL := nL) (Ts := tb) (own := own) ⟨hx, hb, hml, hown, hts⟩ (hm H.size) (bytes := c1) (maxL := maxL) (n := N) (index := i) ⟨callB_of N hts (q_callGood hw.2.2.2) rfl hR1.1 hR1.2.1 (hts _ hw.2.2.1) (hts _ hw.1) hy.2 ⟨hR1.2.2.1, hR1.2.2.2⟩, hy.1, hts _ hw.2.1⟩ ⟨k_blind _ _ _ _, fun U hU hW => ⟨rfl, by rw [hU], by rw [hU]; exact hPc, va_K.moved hW.alike hK, hDc⟩⟩ rfl hN hl.1 hst (lv_room hcat) hd hR) hS (fun z _ hz => hFc z hz) hFc (fun u t H1 locs1 ht hvm hw1 hB hz1 hk1 hS1 => ?_)
  obtain ⟨hP1, hK1, hD1⟩ := hB
  rw [ht] at hP1
  obtain ⟨j1, j2⟩ := k_join hP hD hFc hk1 hP1 hD1
  exact g u hw1 H1 locs1 lsA j1 j2 hS1 hl
end KS
