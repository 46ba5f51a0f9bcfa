/-! THE WALK'S OWN KIT: a fixed world of cells by number, a state of numbers, a predicate over places of a method ('Γ'), a rule an instruction -/
abbrev St : Type := (Nat → Nat → Int32) × (Nat → Nat → Int64)
abbrev Sh : Type := (Nat × List (Option Nat)) ⊕ (Nat × Bool)
abbrev Sy : Type := Launch × va_G × (Nat → Nat) × ClassId × ClassId × (Nat → Nat)
abbrev Sd : Type := List vw_C × List Sh × List (String × String × Nat × (Nat → Int32)) × List Cond
abbrev yl (Z : Sy) : Launch := Z.1
abbrev yD (Z : Sy) : va_G := Z.2.1
abbrev ya (Z : Sy) : Nat → Nat := Z.2.2.1
abbrev yI (Z : Sy) : ClassId := Z.2.2.2.1
abbrev yJ (Z : Sy) : ClassId := Z.2.2.2.2.1
abbrev yT (Z : Sy) : Nat → Nat := Z.2.2.2.2.2
abbrev yt (Z : Sy) : List (ClassId × FieldType) := [(yI Z, .int), (yJ Z, .long)]
def tb : List Cond := lw_tbl.filter goodWord
theorem q_mem {w : Cond} (i : Nat) (h : lw_tbl[i]? = some w) (hg : goodWord w = true) : w ∈ tb := List.mem_filter.mpr ⟨List.mem_of_getElem? h, hg⟩
theorem q_good (w : Cond) (h : w ∈ tb) : (w.onTables && w.keeps) = true ∨ ∃ ty, w = .arrayClass ty := good_of_word (List.mem_filter.mp h).2
theorem q_goodIn {c : Cond} {ws : List Cond} (h : ∀ w ∈ ws, w ∈ tb) : GoodIn (c :: tb) ws := fun w hw => ⟨List.mem_cons_of_mem _ (h w hw), q_good w (h w hw)⟩
theorem q_goodI {ws : List Cond} (h : ∀ w ∈ ws, w ∈ tb) : GoodIn tb ws := fun w hw => ⟨h w hw, q_good w (h w hw)⟩
def q_v (ad : Nat → Nat) (g : Nat → Int32) (j : Nat) (o : Option Nat) : Value := match o with
  | some k => .ref (ad k)
  | none => .int (g j)
def q_e (Z : Sy) (σ : St) (k : Nat) (s : Sh) : Nat × va_E := match s with
  | .inl (ci, fl) => (ya Z k, .inr (ci, fl.mapIdx (q_v (ya Z) (σ.1 k))))
  | .inr (n, false) => (ya Z k, .inl (yI Z, n, .inl (σ.1 k)))
  | .inr (n, true) => (ya Z k, .inl (yJ Z, n, .inr (.inl (σ.2 k))))
theorem q_e1 (Z : Sy) (σ : St) (k : Nat) (s : Sh) : (q_e Z σ k s).1 = ya Z k := by
  rcases s with ⟨ci, fl⟩ | ⟨n, b⟩
  · rfl
  · cases b <;> rfl
def q_ws (Y : Sd) (Z : Sy) (σ : St) : va_W := Y.2.1.mapIdx (q_e Z σ)
theorem q_at {Y : Sd} {Z : Sy} {σ : St} {k : Nat} {s : Sh} (h : Y.2.1[k]? = some s) : (q_ws Y Z σ)[k]? = some (q_e Z σ k s) := by
  simp [q_ws, List.getElem?_mapIdx, h]
def wI (σ : St) (k i : Nat) (v : Int32) : St := (fun a => if a = k then upd (σ.1 k) i v else σ.1 a, σ.2)
def wL (σ : St) (k i : Nat) (v : Int64) : St := (σ.1, fun a => if a = k then vp_updL (σ.2 k) i v else σ.2 a)
def wA (σ : St) (k : Nat) (f : Nat → Int32) : St := (fun a => if a = k then f else σ.1 a, σ.2)
theorem q_ext {Y : Sd} {Z : Sy} {σ σ' : St} {k : Nat} {s : Sh} {e : Nat × va_E} (h : Y.2.1[k]? = some s) (he : e = q_e Z σ' k s) (ho : ∀ j, j ≠ k → ∀ t, q_e Z σ j t = q_e Z σ' j t) : (q_ws Y Z σ).set k e = q_ws Y Z σ' := by
  apply List.ext_getElem?
  intro j
  rw [List.getElem?_set]
  by_cases hj : k = j
  · subst hj
    have hk : k < (q_ws Y Z σ).length := by
      have := (List.getElem?_eq_some_iff.mp (q_at (Z := Z) (σ := σ) h)).1
      exact this
    rw [if_pos rfl, if_pos hk, q_at h, he]
  · rw [if_neg hj]
    simp only [q_ws, List.getElem?_mapIdx]
    cases Y.2.1[j]? with
    | none => rfl
    | some t => simp only [Option.map_some]; rw [ho j (fun q => hj q.symm) t]
theorem q_eI {Z : Sy} {σ : St} {k i : Nat} {v : Int32} (j : Nat) (hj : j ≠ k) (t : Sh) : q_e Z σ j t = q_e Z (wI σ k i v) j t := by
  rcases t with ⟨ci, fl⟩ | ⟨n, b⟩
  · simp [q_e, wI, hj]
  · cases b <;> simp [q_e, wI, hj]
theorem q_eL {Z : Sy} {σ : St} {k i : Nat} {v : Int64} (j : Nat) (hj : j ≠ k) (t : Sh) : q_e Z σ j t = q_e Z (wL σ k i v) j t := by
  rcases t with ⟨ci, fl⟩ | ⟨n, b⟩
  · simp [q_e, wL]
  · cases b <;> simp [q_e, wL, hj]
theorem q_eA {Z : Sy} {σ : St} {k : Nat} {f : Nat → Int32} (j : Nat) (hj : j ≠ k) (t : Sh) : q_e Z σ j t = q_e Z (wA σ k f) j t := by
  rcases t with ⟨ci, fl⟩ | ⟨n, b⟩
  · simp [q_e, wA, hj]
  · cases b <;> simp [q_e, wA, hj]
theorem q_setA {Y : Sd} {Z : Sy} {σ : St} {k n i : Nat} {v : Int32} (h : Y.2.1[k]? = some (.inr (n, false))) : (q_ws Y Z σ).set k (ya Z k, .inl (yI Z, n, .inl (upd (σ.1 k) i v))) = q_ws Y Z (wI σ k i v) :=
  q_ext h (by simp [q_e, wI]) q_eI
theorem q_setW {Y : Sd} {Z : Sy} {σ : St} {k n : Nat} {f : Nat → Int32} (h : Y.2.1[k]? = some (.inr (n, false))) : (q_ws Y Z σ).set k (ya Z k, .inl (yI Z, n, .inl f)) = q_ws Y Z (wA σ k f) :=
  q_ext h (by simp [q_e, wA]) q_eA
theorem q_setL {Y : Sd} {Z : Sy} {σ : St} {k n i : Nat} {v : Int64} (h : Y.2.1[k]? = some (.inr (n, true))) : (q_ws Y Z σ).set k (ya Z k, .inl (yJ Z, n, .inr (.inl (vp_updL (σ.2 k) i v)))) = q_ws Y Z (wL σ k i v) :=
  q_ext h (by simp [q_e, wL]) q_eL
theorem q_setF {Y : Sd} {Z : Sy} {σ : St} {k ci j : Nat} {fl : List (Option Nat)} {v : Int32} (h : Y.2.1[k]? = some (.inl (ci, fl))) (hj : fl[j]? = some none) : (q_ws Y Z σ).set k (ya Z k, .inr (ci, (fl.mapIdx (q_v (ya Z) (σ.1 k))).set j (.int v))) = q_ws Y Z (wI σ k j v) := by
  refine q_ext h ?_ q_eI
  simp only [q_e, wI]
  congr 2
  simp only [if_pos]
  congr 1
  apply List.ext_getElem?
  intro i
  rw [List.getElem?_set, List.getElem?_mapIdx, List.getElem?_mapIdx]
  by_cases hi : j = i
  · subst hi
    have hl : j < fl.length := (List.getElem?_eq_some_iff.mp hj).1
    rw [if_pos rfl, hj]
    simp [q_v, upd, hl]
  · rw [if_neg hi]
    cases fl[i]? with
    | none => rfl
    | some o =>
      cases o with
      | none =>
        have hi2 : ¬ i = j := fun q => hi q.symm
        simp [q_v, upd, hi2]
      | some r => simp [q_v]
def qA (Y : Sd) (Z : Sy) (sz : Nat) : Nat → Prop := fun q => (∃ k : Nat, k < Y.2.1.length ∧ q = ya Z k) ∨ sz ≤ q
def qW (Y : Sd) (Z : Sy) (A : Nat → Prop) (σ : St) (U : State) : Prop := va_P (yD Z) Y.1 (q_ws Y Z σ) U.heap ∧ va_K (yD Z) Y.1 (yt Z) U ∧ va_D A (q_ws Y Z σ)
def qS (Y : Sd) (Z : Sy) (A : Nat → Prop) (U : State) (H : Heap) : Prop := ∀ (i : Nat) (x : String × String × Nat × (Nat → Int32)), Y.2.2.1[i]? = some x → va_Z x.1 x.2.1 "[I" (.ref (yT Z i)) A U H ∧ va_T .int (yT Z i) x.2.2.1 (fun j => .int (x.2.2.2 j)) A U H
def qN (Y : Sd) (U : State) : Prop := ∀ w ∈ Y.2.2.2, va_Nw w U ∧ ∃ (a : String) (i : Nat) (x : MethodName) (h : String), w = .methodLinkNest a i x h
def qPre (Y : Sd) (Z : Sy) (σ : St) (sz : Nat) (U : State) : Prop := U.heap.size = sz ∧ qW Y Z (qA Y Z sz) σ U ∧ qS Y Z (qA Y Z sz) U U.heap ∧ qN Y U
def qQ (Y : Sd) (Z : Sy) (ov : Option Value) (σ' : St) (A : Nat → Prop) : Array Value → State → Outcome → State → Prop := fun _ st oc t => (oc = .returned ov ∧ qW Y Z A σ' t) ∧ va_F A st t
def qR (d : Nat) : Room := { frames := d, cells := 0, slots := 0, locals := 60 * d }
/-- a method's contract: from the state σ with these arguments it returns ov and leaves σ' -/
def Ct (Y : Sd) (Z : Sy) (y : MethodName) (cc : ByteArray) (maxL : Nat) (ret : Option FieldType) (d : Nat) (av : List Value) (σ : St) (ov : Option Value) (σ' : St) : Prop :=
  ∀ sz : Nat, Met (yl Z) y (.code y cc maxL ret :: tb) (qR d) (va_Pc av (qPre Y Z σ sz)) (qQ Y Z ov σ' (qA Y Z sz)) 0 0 (qA Y Z sz)
theorem q_D {Y : Sd} {Z : Sy} {σ σ' : St} {A B : Nat → Prop} (h : va_D A (q_ws Y Z σ)) (hB : ∀ k, k < Y.2.1.length → B (ya Z k)) : va_D B (q_ws Y Z σ') := by
  have key : ∀ (τ : St) (i : Nat) (q : Nat × va_E), (q_ws Y Z τ)[i]? = some q → i < Y.2.1.length ∧ q.1 = ya Z i := by
    intro τ i q hq
    simp only [q_ws, List.getElem?_mapIdx] at hq
    cases hs : Y.2.1[i]? with
    | none => rw [hs] at hq; cases hq
    | some s =>
      rw [hs] at hq
      simp only [Option.map_some, Option.some.injEq] at hq
      exact ⟨(List.getElem?_eq_some_iff.mp hs).1, by rw [← hq]; exact q_e1 Z τ i s⟩
  refine ⟨fun i j p q hp hq hpq => ?_, fun k q hq => ?_⟩
  · obtain ⟨h1, h2⟩ := key σ' i p hp
    obtain ⟨h3, h4⟩ := key σ' j q hq
    have e1 : (q_ws Y Z σ)[i]? = some (q_e Z σ i Y.2.1[i]) := q_at (List.getElem?_eq_some_iff.mpr ⟨h1, rfl⟩)
    have e2 : (q_ws Y Z σ)[j]? = some (q_e Z σ j Y.2.1[j]) := q_at (List.getElem?_eq_some_iff.mpr ⟨h3, rfl⟩)
    exact h.1 i j _ _ e1 e2 (by rw [q_e1, q_e1, ← h2, ← h4]; exact hpq)
  · obtain ⟨h1, h2⟩ := key σ' k q hq
    rw [h2]
    exact hB k h1
def IsG (Y : Sd) (Z : Sy) (own : String) (cc : ByteArray) (nL d : Nat) (ret : Option FieldType) (ov : Option Value) (σ' : St) (Γ : Nat → List (Nat × Value) → List Value → St → Prop) : Prop :=
  ∃ (p : Program) (e : Env) (s : State) (m : MethodId) (args : Array Value) (below : List Frame) (meth : Method) (c : Code),
    (p.tables.exec = Jvm.exec ∧ c.code = cc ∧ c.maxLocals = nL ∧ s.vm.findClass own = some m.cls ∧ meth.sig.returnType = ret ∧ meth.locks = false) ∧ (∀ w ∈ tb, w.before args s = true) ∧ va_K (yD Z) Y.1 (yt Z) s ∧ qS Y Z (qA Y Z s.heap.size) s s.heap ∧ qN Y s ∧
    Γ = fun pc ls st σ => ∀ (H : Heap) (locs : List Loc) (lsA : Array Slot), va_P (yD Z) Y.1 (q_ws Y Z σ) H → va_D (qA Y Z s.heap.size) (q_ws Y Z σ) → va_S (qA Y Z s.heap.size) s.heap H locs → lv_has lsA nL ls →
      W p (yl Z) e (qR d) s m args below meth c H locs 0 0 (MQ below (qQ Y Z ov σ' (qA Y Z s.heap.size)) args s 0 0 (qA Y Z s.heap.size)) (F0 m pc lsA st)
set_option maxHeartbeats 4000000 in
theorem Ct.of {Y : Sd} {Z : Sy} {y : MethodName} {cc : ByteArray} {maxL : Nat} {ret : Option FieldType} {d : Nat} {av : List Value} {σ : St} {ov : Option Value} {σ' : St} {ls0 : List (Nat × Value)} (hy : plainName y.cls = true) (hn : (lg_sl av).length ≤ maxL) (hl0 : lv_args 0 av = ls0)
    (body : ∀ Γ, IsG Y Z y.cls cc maxL d ret ov σ' Γ → Γ 0 ls0 [] σ) : Ct Y Z y cc maxL ret d av σ ov σ' := by
  intro sz
  refine Met.ofW (cc := cc) (maxL := maxL) (ret := ret) hy rfl ?_
  intro p e s m args below meth c s₁ B hml hv
  obtain ⟨rfl, hsz, ⟨hP, hK, hD⟩, hSt, hNw⟩ := hv
  subst hsz
  have hts := atoms_spec (ws := .code y cc maxL ret :: tb) B.pre
  have hl := lv_entry av (n := maxL) hn
  rw [lg_entry_eq]
  rw [hl0] at hl
  exact body _ ⟨p, e, s, m, _, below, meth, c, ⟨B.exec, B.bytes, hml, findClass_of_methodNamed B.named, B.returns, B.notSynchronized⟩, fun w hw => hts w (List.mem_cons_of_mem _ hw), hK, hSt, hNw, rfl⟩ s.heap [] _ hP hD va_S.rf hl
