section RU
variable {Y : Sd} {Z : Sy} {own : String} {cc : ByteArray} {nL d : Nat} {ret : Option FieldType} {ov : Option Value} {σ' : St} {Γ : Nat → List (Nat × Value) → List Value → St → Prop}
variable {pc pc' : Nat} {ls ls' : List (Nat × Value)} {st : List Value} {σ : St}
variable {α : Type} {A B : Option α} {res : α} {tgt : Nat}
theorem r_getIv (h : IsG Y Z own cc nL d ret ov σ' Γ) {k0 j ci i N : Nat} {fl : List (Option Nat)} {C : String} {T : u_T} {ty0 : Nat → FieldType} {v : Int32} (hf : qFd Y k0 j ci fl C T N none) (hc : qCl C T N ty0) (hl0 : qFl own i T j) (hd : decode cc pc = .ok (.getfield i, 3) ∧ pc + 3 = pc') (hv : σ.1 k0 j = v) (k : Γ pc' ls (.int v :: st) σ) : Γ pc ls (.ref (ya Z k0) :: st) σ := by
  subst hv
  exact r_getI h hf hc hl0 hd k
theorem r_ialdv (h : IsG Y Z own cc nL d ret ov σ' Γ) {k0 n : Nat} {i : Int32} {v : Int32} (hs : Y.2.1[k0]? = some (.inr (n, false))) (hd : decode cc pc = .ok (.iaload, 1) ∧ pc + 1 = pc') (hf : (if inb i n then A else none) = some res) (hv : σ.1 k0 i.toNatClampNeg = v) (k : A = some res → Γ pc' ls (.int v :: st) σ) : Γ pc ls (.int i :: .ref (ya Z k0) :: st) σ := by
  subst hv
  exact r_iald h hs hd hf k
theorem r_laldv (h : IsG Y Z own cc nL d ret ov σ' Γ) {k0 n : Nat} {i : Int32} {v : Int64} (hs : Y.2.1[k0]? = some (.inr (n, true))) (hd : decode cc pc = .ok (.laload, 1) ∧ pc + 1 = pc') (hf : (if inb i n then A else none) = some res) (hv : σ.2 k0 i.toNatClampNeg = v) (k : A = some res → Γ pc' ls (.long v :: st) σ) : Γ pc ls (.int i :: .ref (ya Z k0) :: st) σ := by
  subst hv
  exact r_lald h hs hd hf k
theorem q_all {ws : List Cond} (ps : List Nat) (h : ws = ps.filterMap (fun i => lw_tbl[i]?)) (hg : ws.all goodWord = true) : ∀ w ∈ ws, w ∈ tb := by
  intro w hw
  have h1 := List.all_eq_true.mp hg w hw
  rw [h] at hw
  obtain ⟨i, -, hi⟩ := List.mem_filterMap.mp hw
  exact q_mem i hi h1
abbrev mxL (x y : Int64) : Int64 := if y < x then x else y
theorem r_mmaxl (h : IsG Y Z own cc nL d ret ov σ' Γ) {x y : Int64} {i : Nat} (hw : Cond.methodLink own i Lib.MathLoose.max_long.x ∈ tb ∧ Cond.static Lib.MathLoose.max_long.x ∈ tb ∧ Cond.initialized "java/lang/Math" ∈ tb ∧ Cond.code Lib.MathLoose.max_long.x Lib.MathLoose.max_long.code 4 (some .long) ∈ tb) (hdd : 1 ≤ d) (hc : (st.map fun v => v.category).sum ≤ 8) (hd : decode cc pc = .ok (.invokestatic i, 3) ∧ pc + 3 = pc') (k : Γ pc' ls (.long (mxL x y) :: st) σ) : Γ pc ls (.long y :: .long x :: st) σ := by
  obtain ⟨p, e, s, m, args, below, meth, c, ⟨hx, hb, hml, hown, hr, hlk⟩, hts, hK, hSt, hNw, rfl⟩ := h
  obtain ⟨hd, rfl⟩ := hd
  exact fun H locs lsA hP hD hS hl => va_mmax_long hx hb (by rw [hml]; exact hl.1.symm) hown (hts _ hw.1) (hts _ hw.2.1) (hts _ hw.2.2.1) (hts _ hw.2.2.2) hdd (by show _ ≤ 60 * d; omega) (Nat.le_refl _) (Nat.le_refl _) hd (k H locs lsA hP hD hS hl)
theorem q_p1 {β γ : Type} {a : β} {b : γ} {r : β × γ} (h : some (a, b) = some r) : a = r.1 := by cases h; rfl
theorem q_p2 {β γ : Type} {a : β} {b : γ} {r : β × γ} (h : some (a, b) = some r) : b = r.2 := by cases h; rfl
end RU
