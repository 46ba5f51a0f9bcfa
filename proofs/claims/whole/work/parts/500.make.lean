/-! objects that are made: a constructor's contract, and its rules -/
def kE (cI cJ : ClassId) (x : Nat × Bool) (g : Nat → Int32) : va_E := match x with
  | (n, false) => .inl (cI, n, .inl g)
  | (n, true) => .inl (cJ, n, .inr (.inl (fun _ => 0)))
def kZ (fl : List (Option Nat)) : List Value := fl.map (fun o => match o with
  | some _ => .null
  | none => .int 0)
def kV (a : Nat → Nat) (k : Nat) (o : Option Nat) : Value := match o with
  | some i => if i ≤ k then .ref (a i) else .null
  | none => .int 0
def kF (fl : List (Option Nat)) (a : Nat → Nat) (k : Nat) : List Value := fl.map (kV a k)
def kA (cI cJ : ClassId) (arr : List (Nat × Bool)) (F : Nat → Nat → Int32) (a : Nat → Nat) (k : Nat) : va_W := (arr.take k).mapIdx (fun i x => (a (i + 1), kE cI cJ x (F (i + 1))))
def kW (cI cJ : ClassId) (ci : Nat) (fl : List (Option Nat)) (arr : List (Nat × Bool)) (F : Nat → Nat → Int32) (a : Nat → Nat) (k : Nat) : va_W := (a 0, .inr (ci, kF fl a k)) :: kA cI cJ arr F a k
def ka (a : Nat → Nat) (k q : Nat) : Nat → Nat := fun i => if i = k then q else a i
theorem kF_set {fl : List (Option Nat)} {a : Nat → Nat} {k j q : Nat} (hj : fl[j]? = some (some (k + 1))) (hu : ∀ i, i < fl.length → fl[i]? = some (some (k + 1)) → i = j) : (kF fl a k).set j (.ref q) = kF fl (ka a (k + 1) q) (k + 1) := by
  apply List.ext_getElem?
  intro i
  unfold kF
  rw [List.getElem?_set, List.getElem?_map, List.getElem?_map]
  have hl : j < fl.length := (List.getElem?_eq_some_iff.mp hj).1
  by_cases e : j = i
  · subst e
    rw [if_pos rfl, if_pos (by simpa using hl), hj]
    simp [kV, ka]
  · rw [if_neg e]
    cases hi : fl[i]? with
    | none => rfl
    | some o =>
      cases o with
      | none => rfl
      | some t =>
        have ne : t ≠ k + 1 := by
          intro z
          subst z
          exact e (hu i (List.getElem?_eq_some_iff.mp hi).1 hi).symm
        simp only [Option.map_some, kV, ka, if_neg ne]
        by_cases q1 : t ≤ k
        · rw [if_pos q1, if_pos (by omega)]
        · rw [if_neg q1, if_neg (by omega)]
theorem kA_push {cI cJ : ClassId} {arr : List (Nat × Bool)} {F : Nat → Nat → Int32} {a : Nat → Nat} {k q : Nat} {x : Nat × Bool} (hx : arr[k]? = some x) : kA cI cJ arr F a k ++ [(q, kE cI cJ x (F (k + 1)))] = kA cI cJ arr F (ka a (k + 1) q) (k + 1) := by
  have hk : k < arr.length := (List.getElem?_eq_some_iff.mp hx).1
  unfold kA
  apply List.ext_getElem?
  intro i
  rw [List.getElem?_append, List.getElem?_mapIdx, List.getElem?_mapIdx, List.length_mapIdx, List.length_take, Nat.min_eq_left (by omega)]
  rw [List.getElem?_take, List.getElem?_take]
  by_cases h1 : i < k
  · rw [if_pos h1, if_pos h1, if_pos (by omega)]
    cases arr[i]? with
    | none => rfl
    | some y => simp only [Option.map_some, ka, if_neg (show ¬ i + 1 = k + 1 by omega)]
  · rw [if_neg h1]
    by_cases h2 : i = k
    · subst h2
      rw [if_pos (by omega), hx]
      simp [ka]
    · rw [if_neg (by omega)]
      have : i - k = (i - k - 1) + 1 := by omega
      rw [this]
      simp
theorem kF_0 {fl : List (Option Nat)} (a : Nat → Nat) (h : ∀ o ∈ fl, o ≠ some 0) : kF fl a 0 = kZ fl := by
  unfold kF kZ
  apply List.map_congr_left
  intro o ho
  cases o with
  | none => rfl
  | some i =>
    have : i ≠ 0 := fun z => h _ ho (by rw [z])
    simp only [kV]
    rw [if_neg (by omega)]
abbrev kTy (cI cJ : ClassId) : List (ClassId × FieldType) := [(cI, .int), (cJ, .long)]
def kPre (D : va_G) (cl : List vw_C) (cI cJ : ClassId) (h0 : Nat) (e0 : va_E) (sz : Nat) (U : State) : Prop := U.heap.size = sz ∧ va_P D cl [(h0, e0)] U.heap ∧ va_K D cl (kTy cI cJ) U ∧ va_D (fun _ => True) [(h0, e0)]
def kPost (D : va_G) (cl : List vw_C) (cI cJ : ClassId) (A : Nat → Prop) (W1 : (Nat → Nat) → va_W) (a : Nat → Nat) (t : State) : Prop := va_P D cl (W1 a) t.heap ∧ va_K D cl (kTy cI cJ) t ∧ va_D A (W1 a)
def CtK (l : Launch) (D : va_G) (cl : List vw_C) (cI cJ : ClassId) (y : MethodName) (cc : ByteArray) (maxL : Nat) (R : Room) (h0 : Nat) (As : List Value) (e0 : va_E) (W1 : (Nat → Nat) → va_W) (mc ms : Nat) : Prop :=
  ∀ sz : Nat, Met l y (.code y cc maxL none :: tb) R (va_Pc (.ref h0 :: As) (kPre D cl cI cJ h0 e0 sz)) (va_Qv (fun a : Nat → Nat => a 0 = h0) (kPost D cl cI cJ (va_A [(h0, e0)] sz) W1) (va_A [(h0, e0)] sz)) mc ms (va_A [(h0, e0)] sz)
def IsK (l : Launch) (D : va_G) (cl : List vw_C) (cI cJ : ClassId) (own : String) (cc : ByteArray) (nL : Nat) (R : Room) (h0 : Nat) (e0 : va_E) (W1 : (Nat → Nat) → va_W) (mc ms : Nat) (Γ : Nat → List (Nat × Value) → List Value → va_W → Nat → Nat → Prop) : Prop :=
  ∃ (p : Program) (e : Env) (s : State) (m : MethodId) (args : Array Value) (below : List Frame) (meth : Method) (c : Code),
    (p.tables.exec = Jvm.exec ∧ c.code = cc ∧ c.maxLocals = nL ∧ s.vm.findClass own = some m.cls ∧ meth.sig.returnType = none ∧ meth.locks = false ∧ meth.name = "<init>") ∧ (∀ w ∈ tb, w.before args s = true) ∧ va_K D cl (kTy cI cJ) s ∧
    Γ = fun pc ls st ws k n => ∀ (H : Heap) (locs : List Loc) (lsA : Array Slot), va_P D cl ws H → va_D (va_A [(h0, e0)] s.heap.size) ws → va_S (va_A [(h0, e0)] s.heap.size) s.heap H locs → lv_has lsA nL ls →
      W p l e R s m args below meth c H locs k n (MQ below (va_Qv (fun a : Nat → Nat => a 0 = h0) (kPost D cl cI cJ (va_A [(h0, e0)] s.heap.size) W1) (va_A [(h0, e0)] s.heap.size)) args s mc ms (va_A [(h0, e0)] s.heap.size)) (F0 m pc lsA st)
set_option maxHeartbeats 4000000 in
theorem CtK.of {l : Launch} {D : va_G} {cl : List vw_C} {cI cJ : ClassId} {y : MethodName} {cc : ByteArray} {maxL : Nat} {R : Room} {h0 : Nat} {As : List Value} {e0 : va_E} {W1 : (Nat → Nat) → va_W} {mc ms : Nat} {ls0 : List (Nat × Value)} (hy : plainName y.cls = true) (hin : y.name = "<init>") (hn : (lg_sl (.ref h0 :: As)).length ≤ maxL) (hl0 : lv_args 0 (.ref h0 :: As) = ls0)
    (body : ∀ Γ, IsK l D cl cI cJ y.cls cc maxL R h0 e0 W1 mc ms Γ → Γ 0 ls0 [] [(h0, e0)] 0 0) : CtK l D cl cI cJ y cc maxL R h0 As e0 W1 mc ms := by
  intro sz
  refine Met.ofW (cc := cc) (maxL := maxL) (ret := none) hy rfl ?_
  intro p e s m args below meth c s₁ B hml hv
  obtain ⟨rfl, hsz, hP, hK, hD0⟩ := hv
  subst hsz
  have hts := atoms_spec (ws := .code y cc maxL none :: tb) B.pre
  have hl := lv_entry (.ref h0 :: As) (n := maxL) hn
  rw [lg_entry_eq]
  rw [hl0] at hl
  exact body _ ⟨p, e, s, m, _, below, meth, c, ⟨B.exec, B.bytes, hml, findClass_of_methodNamed B.named, B.returns, B.notSynchronized, ((name_of_methodNamed B.named B.method).1).trans hin⟩, fun w hw => hts w (List.mem_cons_of_mem _ hw), hK, rfl⟩ s.heap [] _ hP hD0.self va_S.rf hl
section KR
variable {l : Launch} {D : va_G} {cl : List vw_C} {cI cJ : ClassId} {own : String} {cc : ByteArray} {nL : Nat} {R : Room} {h0 : Nat} {e0 : va_E} {W1 : (Nat → Nat) → va_W} {mc ms : Nat} {Γ : Nat → List (Nat × Value) → List Value → va_W → Nat → Nat → Prop}
variable {pc pc' : Nat} {ls ls' : List (Nat × Value)} {st : List Value} {ws : va_W} {k n : Nat}
theorem k_aload (h : IsK l D cl cI cJ own cc nL R h0 e0 W1 mc ms Γ) {q : Fin 4} {i : Nat} {v : Nat} (hd : decode cc pc = .ok (.aload_n q, 1) ∧ pc + 1 = pc') (kk : Nat) (hk : ls[kk]? = some (i, .ref v)) (hi : (q : Nat) = i) (g : Γ pc' ls (.ref v :: st) ws k n) : Γ pc ls st ws k n := by
  obtain ⟨p, e, s, m, args, below, meth, c, ⟨hx, hb, hml, hown, hr, hlk, hnm⟩, hts, hK, rfl⟩ := h
  obtain ⟨hd, rfl⟩ := hd
  exact fun H locs lsA hP hD hS hl => lv_aload_n hx hb hd hi (lv_at hl kk hk) (g H locs lsA hP hD hS hl)
theorem k_iload (h : IsK l D cl cI cJ own cc nL R h0 e0 W1 mc ms Γ) {q : Fin 4} {i : Nat} {v : Int32} (hd : decode cc pc = .ok (.iload_n q, 1) ∧ pc + 1 = pc') (kk : Nat) (hk : ls[kk]? = some (i, .int v)) (hi : (q : Nat) = i) (g : Γ pc' ls (.int v :: st) ws k n) : Γ pc ls st ws k n := by
  obtain ⟨p, e, s, m, args, below, meth, c, ⟨hx, hb, hml, hown, hr, hlk, hnm⟩, hts, hK, rfl⟩ := h
  obtain ⟨hd, rfl⟩ := hd
  exact fun H locs lsA hP hD hS hl => lv_iload_n hx hb hd hi (lv_at hl kk hk) (g H locs lsA hP hD hS hl)
theorem k_iconst (h : IsK l D cl cI cJ own cc nL R h0 e0 W1 mc ms Γ) {x : Int} {v : Int32} (hd : decode cc pc = .ok (.iconst x, 1) ∧ pc + 1 = pc') (hv : Int32.ofInt x = v) (g : Γ pc' ls (.int v :: st) ws k n) : Γ pc ls st ws k n := by
  obtain ⟨p, e, s, m, args, below, meth, c, ⟨hx, hb, hml, hown, hr, hlk, hnm⟩, hts, hK, rfl⟩ := h
  obtain ⟨hd, rfl⟩ := hd
  exact fun H locs lsA hP hD hS hl => lv_iconst hx hb hd hv (g H locs lsA hP hD hS hl)
theorem k_bipush (h : IsK l D cl cI cJ own cc nL R h0 e0 W1 mc ms Γ) {x : Int} {v : Int32} (hd : decode cc pc = .ok (.bipush x, 2) ∧ pc + 2 = pc') (hv : (Int8.ofInt x).toInt32 = v) (g : Γ pc' ls (.int v :: st) ws k n) : Γ pc ls st ws k n := by
  obtain ⟨p, e, s, m, args, below, meth, c, ⟨hx, hb, hml, hown, hr, hlk, hnm⟩, hts, hK, rfl⟩ := h
  obtain ⟨hd, rfl⟩ := hd
  exact fun H locs lsA hP hD hS hl => lv_bipush hx hb hd hv (g H locs lsA hP hD hS hl)
theorem k_sipush (h : IsK l D cl cI cJ own cc nL R h0 e0 W1 mc ms Γ) {x : Int} {v : Int32} (hd : decode cc pc = .ok (.sipush x, 3) ∧ pc + 3 = pc') (hv : (Int16.ofInt x).toInt32 = v) (g : Γ pc' ls (.int v :: st) ws k n) : Γ pc ls st ws k n := by
  obtain ⟨p, e, s, m, args, below, meth, c, ⟨hx, hb, hml, hown, hr, hlk, hnm⟩, hts, hK, rfl⟩ := h
  obtain ⟨hd, rfl⟩ := hd
  exact fun H locs lsA hP hD hS hl => lv_sipush hx hb hd hv (g H locs lsA hP hD hS hl)
theorem k_dup (h : IsK l D cl cI cJ own cc nL R h0 e0 W1 mc ms Γ) {a : Value} (hd : decode cc pc = .ok (.dup, 1) ∧ pc + 1 = pc') (ha : a.category = 1) (g : Γ pc' ls (a :: a :: st) ws k n) : Γ pc ls (a :: st) ws k n := by
  obtain ⟨p, e, s, m, args, below, meth, c, ⟨hx, hb, hml, hown, hr, hlk, hnm⟩, hts, hK, rfl⟩ := h
  obtain ⟨hd, rfl⟩ := hd
  exact fun H locs lsA hP hD hS hl => lv_dup hx hb hd ha (g H locs lsA hP hD hS hl)
theorem k_istore (h : IsK l D cl cI cJ own cc nL R h0 e0 W1 mc ms Γ) {q : Fin 4} {i : Nat} {v : Int32} (hd : decode cc pc = .ok (.istore_n q, 1) ∧ pc + 1 = pc') (hi : (q : Nat) = i) (hn : i < nL) (hl : (i, Value.int v) :: ls.filter (fun q => !(q.1 == i) && !(q.1 + 1 == i && q.2.category == 2)) = ls') (g : Γ pc' ls' st ws k n) : Γ pc ls (.int v :: st) ws k n := by
  obtain ⟨p, e, s, m, args, below, meth, c, ⟨hx, hb, hml, hown, hr, hlk, hnm⟩, hts, hK, rfl⟩ := h
  obtain ⟨hd, rfl⟩ := hd
  exact fun H locs lsA hP hD hS h1 => lv_istore_n hx hb hd hi h1 hn hl (fun l2 h2 => g H locs l2 hP hD hS h2)
theorem k_iinc (h : IsK l D cl cI cJ own cc nL R h0 e0 W1 mc ms Γ) {i : Nat} {z : Int} {x v : Int32} (hd : decode cc pc = .ok (.iinc i z, 3) ∧ pc + 3 = pc') (kk : Nat) (hk : ls[kk]? = some (i, .int x)) (hv : Int32.ofInt z = v) (hn : i < nL) (hl : (i, Value.int (x + v)) :: ls.filter (fun q => !(q.1 == i) && !(q.1 + 1 == i && q.2.category == 2)) = ls') (g : Γ pc' ls' st ws k n) : Γ pc ls st ws k n := by
  obtain ⟨p, e, s, m, args, below, meth, c, ⟨hx, hb, hml, hown, hr, hlk, hnm⟩, hts, hK, rfl⟩ := h
  obtain ⟨hd, rfl⟩ := hd
  subst hv
  exact fun H locs lsA hP hD hS h1 => lv_iinc hx hb hd h1 hk rfl hn hl (fun l2 h2 => g H locs l2 hP hD hS h2)
theorem k_goto (h : IsK l D cl cI cJ own cc nL R h0 e0 W1 mc ms Γ) {off : Int} (hd : decode cc pc = .ok (.goto off, 3) ∧ (pc : Int) + off = (pc' : Int)) (g : Γ pc' ls st ws k n) : Γ pc ls st ws k n := by
  obtain ⟨p, e, s, m, args, below, meth, c, ⟨hx, hb, hml, hown, hr, hlk, hnm⟩, hts, hK, rfl⟩ := h
  exact fun H locs lsA hP hD hS hl => lv_goto hx hb hd.1 hd.2 (g H locs lsA hP hD hS hl)
theorem k_ge (h : IsK l D cl cI cJ own cc nL R h0 e0 W1 mc ms Γ) {x y : Int32} {off : Int} {tgt : Nat} (hd : decode cc pc = .ok (.if_icmp .ge off, 3) ∧ pc + 3 = pc' ∧ (pc : Int) + off = (tgt : Int)) (k1 : y ≤ x → Γ tgt ls st ws k n) (k2 : ¬ y ≤ x → Γ pc' ls st ws k n) : Γ pc ls (.int y :: .int x :: st) ws k n := by
  obtain ⟨p, e, s, m, args, below, meth, c, ⟨hx, hb, hml, hown, hr, hlk, hnm⟩, hts, hK, rfl⟩ := h
  obtain ⟨hd, rfl, ht⟩ := hd
  exact fun H locs lsA hP hD hS hl => lv_icmp_ge hx hb hd ht (fun q => k1 q H locs lsA hP hD hS hl) (fun q => k2 q H locs lsA hP hD hS hl)
theorem k_obj (h : IsK l D cl cI cJ own cc nL R h0 e0 W1 mc ms Γ) {i a : Nat} (hw : Cond.methodLink own i Lib.objectInit ∈ tb ∧ Cond.instanceMethod Lib.objectInit ∈ tb ∧ Cond.code Lib.objectInit ⟨#[0xb1]⟩ 1 none ∈ tb) (hR : 1 ≤ R.frames ∧ 12 ≤ R.locals) (hd : decode cc pc = .ok (.invokespecial i, 3) ∧ pc + 3 = pc') (g : Γ pc' ls [] ws k n) : Γ pc ls [.ref a] ws k n := by
  obtain ⟨p, e, s, m, args, below, meth, c, ⟨hx, hb, hml, hown, hr, hlk, hnm⟩, hts, hK, rfl⟩ := h
  obtain ⟨hd, rfl⟩ := hd
  intro H locs lsA hP hD hS hl
  refine W.objInit hx hb hown (hts _ hw.1) (hts _ hw.2.1) (hts _ hw.2.2) rfl (by rw [hml]; exact hl.1) rfl hd hR.1 (by simpa using hR.2) ?_
  exact W.eq (g2 := F0 m (pc + 3) lsA []) rfl (g H locs lsA hP hD hS hl)
theorem k_max (h : IsK l D cl cI cJ own cc nL R h0 e0 W1 mc ms Γ) {i : Nat} {x y : Int32} (hw : Cond.methodLink own i Lib.Math.max.name ∈ tb ∧ Cond.static Lib.Math.max.name ∈ tb ∧ Cond.initialized "java/lang/Math" ∈ tb ∧ Cond.code Lib.Math.max.name Lib.Math.max.code 2 (some .int) ∈ tb) (hR : 1 ≤ R.frames ∧ 13 ≤ R.locals ∧ k ≤ R.cells ∧ n ≤ R.slots) (hd : decode cc pc = .ok (.invokestatic i, 3) ∧ pc + 3 = pc') (g : Γ pc' ls [.int (if x < y then y else x)] ws k n) : Γ pc ls [.int y, .int x] ws k n := by
  obtain ⟨p, e, s, m, args, below, meth, c, ⟨hx, hb, hml, hown, hr, hlk, hnm⟩, hts, hK, rfl⟩ := h
  obtain ⟨hd, rfl⟩ := hd
  exact fun H locs lsA hP hD hS hl => va_mmax hx hb (by rw [hml]; exact hl.1.symm) hown (hts _ hw.1) (hts _ hw.2.1) (hts _ hw.2.2.1) (hts _ hw.2.2.2) hR.1 (by simpa using hR.2.1) hR.2.2.1 hR.2.2.2 hd (g H locs lsA hP hD hS hl)
theorem k_newI (h : IsK l D cl cI cJ own cc nL R h0 e0 W1 mc ms Γ) {x : Int32} {N : Nat} (hw : Cond.arrayClass .int ∈ tb) (hN : ¬ x < 0 ∧ x.toNatClampNeg = N ∧ N ≤ 100000) (hR : k + 1 ≤ R.cells ∧ n + N ≤ R.slots) (hd : decode cc pc = .ok (.newarray .int, 2) ∧ pc + 2 = pc') (g : ∀ q : Nat, Γ pc' ls (.ref q :: st) (ws ++ [(q, .inl (cI, N, .inl (fun _ => 0)))]) (k + 1) (n + N)) : Γ pc ls (.int x :: st) ws k n := by
  obtain ⟨p, e, s, m, args, below, meth, c, ⟨hx, hb, hml, hown, hr, hlk, hnm⟩, hts, hK, rfl⟩ := h
  obtain ⟨hd, rfl⟩ := hd
  intro H locs lsA hP hD hS hl
  refine va_newa (atype := .int) (ty := .int) (a0 := (N, .inl (fun _ => 0))) hx hb (hts _ hw) rfl hK hP hD hS (fun q hq => Or.inr hq) (fun cA => rfl) hN.1 hN.2.1 (by show N * 4 ≤ _; omega) hR.1 hR.2 hd (fun q cA H1 hK1 hP1 hD1 hS1 => ?_)
  have r1 : s.vm.findClass ("[" ++ FieldType.int.toString) = some cA := (hK1.2 2 _ rfl).2
  have r2 : s.vm.findClass ("[" ++ FieldType.int.toString) = some cI := (hK.2 0 _ rfl).2
  have e1 : cA = cI := Option.some.inj (r1.symm.trans r2)
  subst e1
  exact g q H1 locs lsA hP1 hD1 hS1 hl
theorem k_newJ (h : IsK l D cl cI cJ own cc nL R h0 e0 W1 mc ms Γ) {x : Int32} {N : Nat} (hw : Cond.arrayClass .long ∈ tb) (hN : ¬ x < 0 ∧ x.toNatClampNeg = N ∧ N ≤ 100000) (hR : k + 1 ≤ R.cells ∧ n + N ≤ R.slots) (hd : decode cc pc = .ok (.newarray .long, 2) ∧ pc + 2 = pc') (g : ∀ q : Nat, Γ pc' ls (.ref q :: st) (ws ++ [(q, .inl (cJ, N, .inr (.inl (fun _ => 0))))]) (k + 1) (n + N)) : Γ pc ls (.int x :: st) ws k n := by
  obtain ⟨p, e, s, m, args, below, meth, c, ⟨hx, hb, hml, hown, hr, hlk, hnm⟩, hts, hK, rfl⟩ := h
  obtain ⟨hd, rfl⟩ := hd
  intro H locs lsA hP hD hS hl
  refine va_newa (atype := .long) (ty := .long) (a0 := (N, .inr (.inl (fun _ => 0)))) hx hb (hts _ hw) rfl hK hP hD hS (fun q hq => Or.inr hq) (fun cA => rfl) hN.1 hN.2.1 (by show N * 8 ≤ _; omega) hR.1 hR.2 hd (fun q cA H1 hK1 hP1 hD1 hS1 => ?_)
  have r1 : s.vm.findClass ("[" ++ FieldType.long.toString) = some cA := (hK1.2 2 _ rfl).2
  have r2 : s.vm.findClass ("[" ++ FieldType.long.toString) = some cJ := (hK.2 1 _ rfl).2
  have e1 : cA = cJ := Option.some.inj (r1.symm.trans r2)
  subst e1
  exact g q H1 locs lsA hP1 hD1 hS1 hl
theorem k_putF (h : IsK l D cl cI cJ own cc nL R h0 e0 W1 mc ms Γ) {ci N j i : Nat} {T : u_T} {ty0 : Nat → FieldType} {fs : List Value} {rest : va_W} {v : Value} {a : Nat} (hc : cl[ci]? = some (own, T, N)) (hq : qCl own T N ty0) (hj : j < N ∧ (T j).2.2.2 = true ∧ (T j).1 = own) (hw : Cond.fieldLink own i own (T j).2.1 (T j).2.2.1 ∈ tb) (hv : narrow (ty0 j) v = v ∧ fits (ty0 j) v = true) (hl0 : j < fs.length) (hd : decode cc pc = .ok (.putfield i, 3) ∧ pc + 3 = pc') (g : Γ pc' ls st ((a, .inr (ci, fs.set j v)) :: rest) k n) : Γ pc ls (v :: .ref a :: st) ((a, .inr (ci, fs)) :: rest) k n := by
  obtain ⟨p, e, s, m, args, below, meth, c, ⟨hx, hb, hml, hown, hr, hlk, hnm⟩, hts, hK, rfl⟩ := h
  obtain ⟨hd, rfl⟩ := hd
  intro H locs lsA hP hD hS hl
  exact va_putF (T := T) (ref := own) hx hb hts hq.1 ty0 hq.2.1 hq.2.2 hown hK hP hD hS 0 (fs := fs) rfl hc j hj.1 (hts _ hw) (fun x hx => by rw [hj.2.2] at hx; exact hx) hj.2.1 hnm hj.2.2 (hq.2.1 j hj.1) hv.1 hv.2 hl0 hd (fun H1 l1 hP1 hD1 hS1 => g H1 l1 lsA hP1 hD1 hS1 hl)
theorem k_iast (h : IsK l D cl cI cJ own cc nL R h0 e0 W1 mc ms Γ) (q0 : Nat) {a N : Nat} {f : Nat → Int32} {i x : Int32} {ws' : va_W} (ha : ws[q0]? = some (a, .inl (cI, N, .inl f))) (hin : inb i N) (hs : ws.set q0 (a, .inl (cI, N, .inl (upd f i.toNatClampNeg x))) = ws') (hd : decode cc pc = .ok (.iastore, 1) ∧ pc + 1 = pc') (g : Γ pc' ls st ws' k n) : Γ pc ls (.int x :: .int i :: .ref a :: st) ws k n := by
  obtain ⟨p, e, s, m, args, below, meth, c, ⟨hx, hb, hml, hown, hr, hlk, hnm⟩, hts, hK, rfl⟩ := h
  obtain ⟨hd, rfl⟩ := hd
  subst hs
  exact fun H locs lsA hP hD hS hl => va_iast (D := D) hx hb hK hP hD hS q0 0 ha rfl hin hd (fun H1 l1 hP1 hD1 hS1 => g H1 l1 lsA hP1 hD1 hS1 hl)
theorem k_get (h : IsK l D cl cI cJ own cc nL R h0 e0 W1 mc ms Γ) {ci N j i : Nat} {T : u_T} {ty0 : Nat → FieldType} {fs : List Value} {rest : va_W} {v : Value} {a : Nat} (hc : cl[ci]? = some (own, T, N)) (hq : qCl own T N ty0) (hj : j < N ∧ (T j).1 = own) (hw : Cond.fieldLink own i own (T j).2.1 (T j).2.2.1 ∈ tb) (hfs : fs[j]? = some v) (hd : decode cc pc = .ok (.getfield i, 3) ∧ pc + 3 = pc') (g : Γ pc' ls (v :: st) ((a, .inr (ci, fs)) :: rest) k n) : Γ pc ls (.ref a :: st) ((a, .inr (ci, fs)) :: rest) k n := by
  obtain ⟨p, e, s, m, args, below, meth, c, ⟨hx, hb, hml, hown, hr, hlk, hnm⟩, hts, hK, rfl⟩ := h
  obtain ⟨hd, rfl⟩ := hd
  exact fun H locs lsA hP hD hS hl => va_get (D := D) (T := T) (ref := own) hx hb hts hq.1 hown hK hP 0 (fs := fs) rfl hc j hj.1 (hts _ hw) (fun x hx => by rw [hj.2] at hx; exact hx) hfs hd (g H locs lsA hP hD hS hl)
theorem k_ret (h : IsK l D cl cI cJ own cc nL R h0 e0 W1 k n Γ) (a : Nat → Nat) (ha : a 0 = h0) (hw : ws = W1 a) (hd : decode cc pc = .ok (.return_, 1)) : Γ pc ls [] ws k n := by
  subst hw
  obtain ⟨p, e, s, m, args, below, meth, c, ⟨hx, hb, hml, hown, hr, hlk, hnm⟩, hts, hK, rfl⟩ := h
  exact fun H locs lsA hP hD hS hl => W.vret hx hb hr (fun t ht hW => ⟨⟨a, rfl, ha, by rw [ht]; exact hP, va_K.moved hW.alike hK, hD⟩, hS.F ht⟩) hS.2.2 hd hlk
/-- an array stands in its field -/
theorem k_fin (h : IsK l D cl cI cJ own cc nL R h0 e0 W1 mc ms Γ) {ci N j i t : Nat} {T : u_T} {ty0 : Nat → FieldType} {fl : List (Option Nat)} {arr : List (Nat × Bool)} {F : Nat → Nat → Int32} {a : Nat → Nat} {q b0 : Nat} {x : Nat × Bool} {en : va_E} (hb0 : a 0 = b0) (hc : cl[ci]? = some (own, T, N)) (hq : qCl own T N ty0) (hj : j < N ∧ (T j).2.2.2 = true ∧ (T j).1 = own) (hw : Cond.fieldLink own i own (T j).2.1 (T j).2.2.1 ∈ tb) (hv : ∀ z, narrow (ty0 j) (.ref z) = .ref z ∧ fits (ty0 j) (.ref z) = true) (hfl : fl[j]? = some (some (t + 1)) ∧ (∀ i, i < fl.length → fl[i]? = some (some (t + 1)) → i = j)) (harr : arr[t]? = some x) (hen : en = kE cI cJ x (F (t + 1))) (hd : decode cc pc = .ok (.putfield i, 3) ∧ pc + 3 = pc')
    (g : Γ pc' ls st (kW cI cJ ci fl arr F (ka a (t + 1) q) (t + 1)) k n) : Γ pc ls (.ref q :: .ref b0 :: st) (kW cI cJ ci fl arr F a t ++ [(q, en)]) k n := by
  subst hb0
  subst hen
  have e1 : kW cI cJ ci fl arr F a t ++ [(q, kE cI cJ x (F (t + 1)))] = (a 0, .inr (ci, kF fl a t)) :: kA cI cJ arr F (ka a (t + 1) q) (t + 1) := by
    unfold kW
    rw [List.cons_append, kA_push harr]
  rw [e1]
  refine k_putF h hc hq hj hw (hv q) (by unfold kF; rw [List.length_map]; exact (List.getElem?_eq_some_iff.mp hfl.1).1) hd ?_
  rw [kF_set hfl.1 hfl.2]
  exact g
end KR
