section RU
variable {Y : Sd} {Z : Sy} {own : String} {cc : ByteArray} {nL d : Nat} {ret : Option FieldType} {ov : Option Value} {σ' : St} {Γ : Nat → List (Nat × Value) → List Value → St → Prop}
variable {pc pc' : Nat} {ls ls' : List (Nat × Value)} {st : List Value} {σ : St}
variable {α : Type} {A B : Option α} {res : α} {tgt : Nat}
def bi (b : Bool) : Int32 := if b = true then 1 else 0
theorem bi0 (b : Bool) : (bi b = 0) = ¬ (b = true) := by cases b <;> simp [bi]
theorem bi_nar (b : Bool) : narrow .boolean (.int (bi b)) = .int (bi b) := by cases b <;> rfl
theorem r_bif_eq (h : IsG Y Z own cc nL d ret ov σ' Γ) {b : Bool} {off : Int} (hd : decode cc pc = .ok (.ifCond .eq off, 3) ∧ pc + 3 = pc' ∧ (pc : Int) + off = (tgt : Int)) (hf : (if b = true then B else A) = some res) (k1 : A = some res → Γ tgt ls st σ) (k2 : B = some res → Γ pc' ls st σ) : Γ pc ls (.int (bi b) :: st) σ := by
  cases b
  · exact r_if_eq_T h hd (by decide) (k1 hf)
  · exact r_if_eq_F h hd (by decide) (k2 hf)
theorem r_bif_ne (h : IsG Y Z own cc nL d ret ov σ' Γ) {b : Bool} {off : Int} (hd : decode cc pc = .ok (.ifCond .ne off, 3) ∧ pc + 3 = pc' ∧ (pc : Int) + off = (tgt : Int)) (hf : (if b = true then A else B) = some res) (k1 : A = some res → Γ tgt ls st σ) (k2 : B = some res → Γ pc' ls st σ) : Γ pc ls (.int (bi b) :: st) σ := by
  cases b
  · exact r_if_ne_F h hd (by decide) (k2 hf)
  · exact r_if_ne_T h hd (by decide) (k1 hf)
theorem r_lcmp (h : IsG Y Z own cc nL d ret ov σ' Γ) {x y : Int64} (hd : decode cc pc = .ok (.lcmp, 1) ∧ pc + 1 = pc') (k : Γ pc' ls (.int (lg_cmp x y) :: st) σ) : Γ pc ls (.long y :: .long x :: st) σ := by
  obtain ⟨p, e, s, m, args, below, meth, c, ⟨hx, hb, hml, hown, hr, hlk⟩, hts, hK, hSt, hNw, rfl⟩ := h
  obtain ⟨hd, rfl⟩ := hd
  exact fun H locs lsA hP hD hS hl => W.lcmp hx hb hd (k H locs lsA hP hD hS hl)
theorem lcm_eq (x y : Int64) : (lg_cmp x y = 0) ↔ x = y := by
  unfold lg_cmp
  split
  · rename_i h; exact ⟨fun q => absurd q (by decide), fun q => by subst q; exact absurd h (Int64.lt_irrefl)⟩
  · split
    · rename_i h1 h2; exact ⟨fun _ => h2, fun _ => rfl⟩
    · rename_i h1 h2; exact ⟨fun q => absurd q (by decide), fun q => absurd q h2⟩
theorem lcm_gt (x y : Int64) : (0 < lg_cmp x y) ↔ y < x := by
  unfold lg_cmp
  split
  · rename_i h; exact ⟨fun _ => h, fun _ => by decide⟩
  · split
    · rename_i h1 h2; exact ⟨fun q => absurd q (by decide), fun q => absurd q h1⟩
    · rename_i h1 h2; exact ⟨fun q => absurd q (by decide), fun q => absurd q h1⟩
theorem lcm_lt (x y : Int64) : (lg_cmp x y < 0) ↔ x < y := by
  unfold lg_cmp
  split
  · rename_i h; exact ⟨fun q => absurd q (by decide), fun q => absurd (Int64.lt_trans h q) Int64.lt_irrefl⟩
  · split
    · rename_i h1 h2; exact ⟨fun q => absurd q (by decide), fun q => by subst h2; exact absurd q Int64.lt_irrefl⟩
    · rename_i h1 h2; exact ⟨fun _ => by
        rcases Int64.lt_or_le x y with q | q
        · exact q
        · exact absurd (Int64.le_antisymm (Int64.not_lt.mp h1) q) h2, fun _ => by decide⟩
theorem r_lif_eq (h : IsG Y Z own cc nL d ret ov σ' Γ) {x y : Int64} {off : Int} {pc1 : Nat} (hd : decode cc pc = .ok (.lcmp, 1) ∧ pc + 1 = pc1) (hd2 : decode cc pc1 = .ok (.ifCond .eq off, 3) ∧ pc1 + 3 = pc' ∧ (pc1 : Int) + off = (tgt : Int)) (hf : (if x = y then A else B) = some res) (k1 : A = some res → Γ tgt ls st σ) (k2 : B = some res → Γ pc' ls st σ) : Γ pc ls (.long y :: .long x :: st) σ := by
  by_cases q : x = y
  · rw [if_pos q] at hf; exact r_lcmp h hd (r_if_eq_T h hd2 ((lcm_eq x y).mpr q) (k1 hf))
  · rw [if_neg q] at hf; exact r_lcmp h hd (r_if_eq_F h hd2 (fun z => q ((lcm_eq x y).mp z)) (k2 hf))
theorem r_lif_ne (h : IsG Y Z own cc nL d ret ov σ' Γ) {x y : Int64} {off : Int} {pc1 : Nat} (hd : decode cc pc = .ok (.lcmp, 1) ∧ pc + 1 = pc1) (hd2 : decode cc pc1 = .ok (.ifCond .ne off, 3) ∧ pc1 + 3 = pc' ∧ (pc1 : Int) + off = (tgt : Int)) (hf : (if x = y then B else A) = some res) (k1 : A = some res → Γ tgt ls st σ) (k2 : B = some res → Γ pc' ls st σ) : Γ pc ls (.long y :: .long x :: st) σ := by
  by_cases q : x = y
  · rw [if_pos q] at hf; exact r_lcmp h hd (r_if_ne_F h hd2 ((lcm_eq x y).mpr q) (k2 hf))
  · rw [if_neg q] at hf; exact r_lcmp h hd (r_if_ne_T h hd2 (fun z => q ((lcm_eq x y).mp z)) (k1 hf))
theorem r_lif_lt (h : IsG Y Z own cc nL d ret ov σ' Γ) {x y : Int64} {off : Int} {pc1 : Nat} (hd : decode cc pc = .ok (.lcmp, 1) ∧ pc + 1 = pc1) (hd2 : decode cc pc1 = .ok (.ifCond .lt off, 3) ∧ pc1 + 3 = pc' ∧ (pc1 : Int) + off = (tgt : Int)) (hf : (if x < y then A else B) = some res) (k1 : A = some res → Γ tgt ls st σ) (k2 : B = some res → Γ pc' ls st σ) : Γ pc ls (.long y :: .long x :: st) σ := by
  by_cases q : x < y
  · rw [if_pos q] at hf; exact r_lcmp h hd (r_if_lt_T h hd2 ((lcm_lt x y).mpr q) (k1 hf))
  · rw [if_neg q] at hf; exact r_lcmp h hd (r_if_lt_F h hd2 (fun z => q ((lcm_lt x y).mp z)) (k2 hf))
theorem r_lif_ge (h : IsG Y Z own cc nL d ret ov σ' Γ) {x y : Int64} {off : Int} {pc1 : Nat} (hd : decode cc pc = .ok (.lcmp, 1) ∧ pc + 1 = pc1) (hd2 : decode cc pc1 = .ok (.ifCond .ge off, 3) ∧ pc1 + 3 = pc' ∧ (pc1 : Int) + off = (tgt : Int)) (hf : (if x < y then B else A) = some res) (k1 : A = some res → Γ tgt ls st σ) (k2 : B = some res → Γ pc' ls st σ) : Γ pc ls (.long y :: .long x :: st) σ := by
  by_cases q : x < y
  · rw [if_pos q] at hf; exact r_lcmp h hd (r_if_ge_F h hd2 (Int32.not_le.mpr ((lcm_lt x y).mpr q)) (k2 hf))
  · rw [if_neg q] at hf; exact r_lcmp h hd (r_if_ge_T h hd2 (Int32.not_lt.mp (fun z => q ((lcm_lt x y).mp z))) (k1 hf))
theorem r_lif_gt (h : IsG Y Z own cc nL d ret ov σ' Γ) {x y : Int64} {off : Int} {pc1 : Nat} (hd : decode cc pc = .ok (.lcmp, 1) ∧ pc + 1 = pc1) (hd2 : decode cc pc1 = .ok (.ifCond .gt off, 3) ∧ pc1 + 3 = pc' ∧ (pc1 : Int) + off = (tgt : Int)) (hf : (if y < x then A else B) = some res) (k1 : A = some res → Γ tgt ls st σ) (k2 : B = some res → Γ pc' ls st σ) : Γ pc ls (.long y :: .long x :: st) σ := by
  by_cases q : y < x
  · rw [if_pos q] at hf; exact r_lcmp h hd (r_if_gt_T h hd2 ((lcm_gt x y).mpr q) (k1 hf))
  · rw [if_neg q] at hf; exact r_lcmp h hd (r_if_gt_F h hd2 (fun z => q ((lcm_gt x y).mp z)) (k2 hf))
theorem r_lif_le (h : IsG Y Z own cc nL d ret ov σ' Γ) {x y : Int64} {off : Int} {pc1 : Nat} (hd : decode cc pc = .ok (.lcmp, 1) ∧ pc + 1 = pc1) (hd2 : decode cc pc1 = .ok (.ifCond .le off, 3) ∧ pc1 + 3 = pc' ∧ (pc1 : Int) + off = (tgt : Int)) (hf : (if y < x then B else A) = some res) (k1 : A = some res → Γ tgt ls st σ) (k2 : B = some res → Γ pc' ls st σ) : Γ pc ls (.long y :: .long x :: st) σ := by
  by_cases q : y < x
  · rw [if_pos q] at hf; exact r_lcmp h hd (r_if_le_F h hd2 (Int32.not_le.mpr ((lcm_gt x y).mpr q)) (k2 hf))
  · rw [if_neg q] at hf; exact r_lcmp h hd (r_if_le_T h hd2 (Int32.not_lt.mp (fun z => q ((lcm_gt x y).mp z))) (k1 hf))
def qCl (C : String) (T : u_T) (N : Nat) (ty0 : Nat → FieldType) : Prop := (∀ w ∈ u_ws C T N, w ∈ tb) ∧ (∀ k, k < N → parseFieldDescriptor (T k).2.2.1 = some (ty0 k)) ∧ (∀ a, a < N → ∀ b, b < N → a ≠ b → (T a).2.1 ≠ (T b).2.1)
def qFl (own : String) (i : Nat) (T : u_T) (j : Nat) : Prop := Cond.fieldLink own i (T j).1 (T j).2.1 (T j).2.2.1 ∈ tb
def qFd (Y : Sd) (k j ci : Nat) (fl : List (Option Nat)) (C : String) (T : u_T) (N : Nat) (o : Option Nat) : Prop := Y.2.1[k]? = some (.inl (ci, fl)) ∧ Y.1[ci]? = some (C, T, N) ∧ j < N ∧ fl[j]? = some o
theorem r_getI (h : IsG Y Z own cc nL d ret ov σ' Γ) {k0 j ci i N : Nat} {fl : List (Option Nat)} {C : String} {T : u_T} {ty0 : Nat → FieldType} (hf : qFd Y k0 j ci fl C T N none) (hc : qCl C T N ty0) (hl0 : qFl own i T j) (hd : decode cc pc = .ok (.getfield i, 3) ∧ pc + 3 = pc') (k : Γ pc' ls (.int (σ.1 k0 j) :: st) σ) : Γ pc ls (.ref (ya Z k0) :: st) σ := by
  obtain ⟨p, e, s, m, args, below, meth, c, ⟨hx, hb, hml, hown, hr, hlk⟩, hts, hK, hSt, hNw, rfl⟩ := h
  obtain ⟨hd, rfl⟩ := hd
  obtain ⟨h1, h2, h3, h4⟩ := hf
  exact fun H locs lsA hP hD hS hl => va_get (D := yD Z) hx hb hts hc.1 hown hK hP k0 (q_at h1) h2 j h3 (hts _ hl0) (fun _ q => q) (v := .int (σ.1 k0 j)) (by rw [List.getElem?_mapIdx, h4]; rfl) hd (k H locs lsA hP hD hS hl)
theorem r_getR (h : IsG Y Z own cc nL d ret ov σ' Γ) {k0 j ci i N k1 : Nat} {fl : List (Option Nat)} {C : String} {T : u_T} {ty0 : Nat → FieldType} (hf : qFd Y k0 j ci fl C T N (some k1)) (hc : qCl C T N ty0) (hl0 : qFl own i T j) (hd : decode cc pc = .ok (.getfield i, 3) ∧ pc + 3 = pc') (k : Γ pc' ls (.ref (ya Z k1) :: st) σ) : Γ pc ls (.ref (ya Z k0) :: st) σ := by
  obtain ⟨p, e, s, m, args, below, meth, c, ⟨hx, hb, hml, hown, hr, hlk⟩, hts, hK, hSt, hNw, rfl⟩ := h
  obtain ⟨hd, rfl⟩ := hd
  obtain ⟨h1, h2, h3, h4⟩ := hf
  exact fun H locs lsA hP hD hS hl => va_get (D := yD Z) hx hb hts hc.1 hown hK hP k0 (q_at h1) h2 j h3 (hts _ hl0) (fun _ q => q) (v := .ref (ya Z k1)) (by rw [List.getElem?_mapIdx, h4]; rfl) hd (k H locs lsA hP hD hS hl)
theorem r_putX (h : IsG Y Z own cc nL d ret ov σ' Γ) {k0 j ci i N : Nat} {fl : List (Option Nat)} {C : String} {T : u_T} {ty0 : Nat → FieldType} {ty : FieldType} {v : Int32} (hf : qFd Y k0 j ci fl C T N none) (hc : qCl C T N ty0) (hl0 : qFl own i T j) (hfin : (T j).2.2.2 = false ∧ parseFieldDescriptor (T j).2.2.1 = some ty) (hn : narrow ty (.int v) = .int v) (hfit : fits ty (.int v) = true) (hd : decode cc pc = .ok (.putfield i, 3) ∧ pc + 3 = pc') (k : Γ pc' ls st (wI σ k0 j v)) : Γ pc ls (.int v :: .ref (ya Z k0) :: st) σ := by
  obtain ⟨p, e, s, m, args, below, meth, c, ⟨hx, hb, hml, hown, hr, hlk⟩, hts, hK, hSt, hNw, rfl⟩ := h
  obtain ⟨hd, rfl⟩ := hd
  obtain ⟨h1, h2, h3, h4⟩ := hf
  exact fun H locs lsA hP hD hS hl => va_put (D := yD Z) hx hb hts hc.1 ty0 hc.2.1 hc.2.2 hown hK hP hD hS k0 (q_at h1) h2 j h3 (hts _ hl0) (fun _ q => q) hfin.1 hfin.2 hn hfit (by rw [List.length_mapIdx]; exact (List.getElem?_eq_some_iff.mp h4).1) hd (fun H1 l1 hP1 hD1 hS1 => k H1 l1 lsA (by rw [q_setF h1 h4] at hP1; exact hP1) (by rw [q_setF h1 h4] at hD1; exact hD1) hS1 hl)
theorem r_putI (h : IsG Y Z own cc nL d ret ov σ' Γ) {k0 j ci i N : Nat} {fl : List (Option Nat)} {C : String} {T : u_T} {ty0 : Nat → FieldType} {v : Int32} (hf : qFd Y k0 j ci fl C T N none) (hc : qCl C T N ty0) (hl0 : qFl own i T j) (hfin : (T j).2.2.2 = false ∧ parseFieldDescriptor (T j).2.2.1 = some .int) (hd : decode cc pc = .ok (.putfield i, 3) ∧ pc + 3 = pc') (k : Γ pc' ls st (wI σ k0 j v)) : Γ pc ls (.int v :: .ref (ya Z k0) :: st) σ := r_putX h hf hc hl0 hfin rfl rfl hd k
abbrev inb (i : Int32) (n : Nat) : Prop := ¬ (i < 0 ∨ n ≤ i.toNatClampNeg)
theorem r_iald (h : IsG Y Z own cc nL d ret ov σ' Γ) {k0 n : Nat} {i : Int32} (hs : Y.2.1[k0]? = some (.inr (n, false))) (hd : decode cc pc = .ok (.iaload, 1) ∧ pc + 1 = pc') (hf : (if inb i n then A else none) = some res) (k : A = some res → Γ pc' ls (.int (σ.1 k0 i.toNatClampNeg) :: st) σ) : Γ pc ls (.int i :: .ref (ya Z k0) :: st) σ := by
  by_cases q : inb i n
  · rw [if_pos q] at hf
    have k := k hf
    obtain ⟨p, e, s, m, args, below, meth, c, ⟨hx, hb, hml, hown, hr, hlk⟩, hts, hK, hSt, hNw, rfl⟩ := h
    obtain ⟨hd, rfl⟩ := hd
    exact fun H locs lsA hP hD hS hl => va_iald (D := yD Z) hx hb hK hP k0 0 (q_at hs) rfl q hd (k H locs lsA hP hD hS hl)
  · rw [if_neg q] at hf; cases hf
theorem r_lald (h : IsG Y Z own cc nL d ret ov σ' Γ) {k0 n : Nat} {i : Int32} (hs : Y.2.1[k0]? = some (.inr (n, true))) (hd : decode cc pc = .ok (.laload, 1) ∧ pc + 1 = pc') (hf : (if inb i n then A else none) = some res) (k : A = some res → Γ pc' ls (.long (σ.2 k0 i.toNatClampNeg) :: st) σ) : Γ pc ls (.int i :: .ref (ya Z k0) :: st) σ := by
  by_cases q : inb i n
  · rw [if_pos q] at hf
    have k := k hf
    obtain ⟨p, e, s, m, args, below, meth, c, ⟨hx, hb, hml, hown, hr, hlk⟩, hts, hK, hSt, hNw, rfl⟩ := h
    obtain ⟨hd, rfl⟩ := hd
    exact fun H locs lsA hP hD hS hl => va_lald (D := yD Z) hx hb hK hP k0 1 (q_at hs) rfl q hd (k H locs lsA hP hD hS hl)
  · rw [if_neg q] at hf; cases hf
theorem r_iast (h : IsG Y Z own cc nL d ret ov σ' Γ) {k0 n : Nat} {i : Int32} {v : Int32} (hs : Y.2.1[k0]? = some (.inr (n, false))) (hd : decode cc pc = .ok (.iastore, 1) ∧ pc + 1 = pc') (hf : (if inb i n then A else none) = some res) (k : A = some res → Γ pc' ls st (wI σ k0 i.toNatClampNeg v)) : Γ pc ls (.int v :: .int i :: .ref (ya Z k0) :: st) σ := by
  by_cases q : inb i n
  · rw [if_pos q] at hf
    have k := k hf
    obtain ⟨p, e, s, m, args, below, meth, c, ⟨hx, hb, hml, hown, hr, hlk⟩, hts, hK, hSt, hNw, rfl⟩ := h
    obtain ⟨hd, rfl⟩ := hd
    exact fun H locs lsA hP hD hS hl => va_iast (D := yD Z) hx hb hK hP hD hS k0 0 (q_at hs) rfl q hd (fun H1 l1 hP1 hD1 hS1 => k H1 l1 lsA (by rw [q_setA hs] at hP1; exact hP1) (by rw [q_setA hs] at hD1; exact hD1) hS1 hl)
  · rw [if_neg q] at hf; cases hf
theorem r_last (h : IsG Y Z own cc nL d ret ov σ' Γ) {k0 n : Nat} {i : Int32} {v : Int64} (hs : Y.2.1[k0]? = some (.inr (n, true))) (hd : decode cc pc = .ok (.lastore, 1) ∧ pc + 1 = pc') (hf : (if inb i n then A else none) = some res) (k : A = some res → Γ pc' ls st (wL σ k0 i.toNatClampNeg v)) : Γ pc ls (.long v :: .int i :: .ref (ya Z k0) :: st) σ := by
  by_cases q : inb i n
  · rw [if_pos q] at hf
    have k := k hf
    obtain ⟨p, e, s, m, args, below, meth, c, ⟨hx, hb, hml, hown, hr, hlk⟩, hts, hK, hSt, hNw, rfl⟩ := h
    obtain ⟨hd, rfl⟩ := hd
    exact fun H locs lsA hP hD hS hl => va_last (D := yD Z) hx hb hK hP hD hS k0 1 (q_at hs) rfl q hd (fun H1 l1 hP1 hD1 hS1 => k H1 l1 lsA (by rw [q_setL hs] at hP1; exact hP1) (by rw [q_setL hs] at hD1; exact hD1) hS1 hl)
  · rw [if_neg q] at hf; cases hf
theorem r_alen (h : IsG Y Z own cc nL d ret ov σ' Γ) {k0 n : Nat} {v : Int32} (hs : Y.2.1[k0]? = some (.inr (n, false))) (hv : Int32.ofNat n = v) (hd : decode cc pc = .ok (.arraylength, 1) ∧ pc + 1 = pc') (k : Γ pc' ls (.int v :: st) σ) : Γ pc ls (.ref (ya Z k0) :: st) σ := by
  obtain ⟨p, e, s, m, args, below, meth, c, ⟨hx, hb, hml, hown, hr, hlk⟩, hts, hK, hSt, hNw, rfl⟩ := h
  obtain ⟨hd, rfl⟩ := hd
  exact fun H locs lsA hP hD hS hl => va_alen (D := yD Z) hx hb hK hP k0 0 (q_at hs) (ty := .int) rfl hv hd (k H locs lsA hP hD hS hl)
theorem r_gets (h : IsG Y Z own cc nL d ret ov σ' Γ) {i0 i N : Nat} {C n : String} {g : Nat → Int32} (hs : Y.2.2.1[i0]? = some (C, n, N, g)) (hl0 : Cond.fieldLink own i C n "[I" ∈ tb) (hd : decode cc pc = .ok (.getstatic i, 3) ∧ pc + 3 = pc') (k : Γ pc' ls (.ref (yT Z i0) :: st) σ) : Γ pc ls st σ := by
  obtain ⟨p, e, s, m, args, below, meth, c, ⟨hx, hb, hml, hown, hr, hlk⟩, hts, hK, hSt, hNw, rfl⟩ := h
  obtain ⟨hd, rfl⟩ := hd
  exact fun H locs lsA hP hD hS hl => va_gets hx hb (hSt i0 _ hs).1 hS hown (hts _ hl0) (fun _ q => q) hd (k H locs lsA hP hD hS hl)
theorem r_tald (h : IsG Y Z own cc nL d ret ov σ' Γ) {i0 N : Nat} {C n : String} {g : Nat → Int32} {i : Int32} (hs : Y.2.2.1[i0]? = some (C, n, N, g)) (hd : decode cc pc = .ok (.iaload, 1) ∧ pc + 1 = pc') (hf : (if inb i N then A else none) = some res) (k : A = some res → Γ pc' ls (.int (g i.toNatClampNeg) :: st) σ) : Γ pc ls (.int i :: .ref (yT Z i0) :: st) σ := by
  by_cases q : inb i N
  · rw [if_pos q] at hf
    have k := k hf
    obtain ⟨p, e, s, m, args, below, meth, c, ⟨hx, hb, hml, hown, hr, hlk⟩, hts, hK, hSt, hNw, rfl⟩ := h
    obtain ⟨hd, rfl⟩ := hd
    exact fun H locs lsA hP hD hS hl => va_ti hx hb (hSt i0 _ hs).2 hS q rfl hd (k H locs lsA hP hD hS hl)
  · rw [if_neg q] at hf; cases hf
theorem r_tlen (h : IsG Y Z own cc nL d ret ov σ' Γ) {i0 N : Nat} {C n : String} {g : Nat → Int32} {v : Int32} (hs : Y.2.2.1[i0]? = some (C, n, N, g)) (hv : Int32.ofNat N = v) (hd : decode cc pc = .ok (.arraylength, 1) ∧ pc + 1 = pc') (k : Γ pc' ls (.int v :: st) σ) : Γ pc ls (.ref (yT Z i0) :: st) σ := by
  obtain ⟨p, e, s, m, args, below, meth, c, ⟨hx, hb, hml, hown, hr, hlk⟩, hts, hK, hSt, hNw, rfl⟩ := h
  obtain ⟨hd, rfl⟩ := hd
  exact fun H locs lsA hP hD hS hl => va_tlen hx hb (hSt i0 _ hs).2 hS hv hd (k H locs lsA hP hD hS hl)
abbrev cpok (sp dp n : Int32) (n0 n1 : Nat) : Prop := (¬ sp < 0 ∧ ¬ dp < 0 ∧ ¬ n < 0) ∧ sp.toNatClampNeg + n.toNatClampNeg ≤ n0 ∧ dp.toNatClampNeg + n.toNatClampNeg ≤ n1
theorem r_acopy (h : IsG Y Z own cc nL d ret ov σ' Γ) {k0 k1 n0 n1 i : Nat} {sp dp n : Int32} (hs0 : Y.2.1[k0]? = some (.inr (n0, false))) (hs1 : Y.2.1[k1]? = some (.inr (n1, false))) (hw : Cond.methodLink own i arraycopyName ∈ tb ∧ Cond.native arraycopyName ∈ tb ∧ Cond.static arraycopyName ∈ tb ∧ Cond.initialized "java/lang/System" ∈ tb) (hdd : 1 ≤ d) (hst : st = []) (hd : decode cc pc = .ok (.invokestatic i, 3) ∧ pc + 3 = pc') (hf : (if cpok sp dp n n0 n1 then A else none) = some res) (k : A = some res → Γ pc' ls st (wA σ k1 (va_cpy (σ.1 k0) (σ.1 k1) sp.toNatClampNeg dp.toNatClampNeg n.toNatClampNeg))) : Γ pc ls (.int n :: .int dp :: .ref (ya Z k1) :: .int sp :: .ref (ya Z k0) :: st) σ := by
  by_cases q : cpok sp dp n n0 n1
  · rw [if_pos q] at hf
    have k := k hf
    subst hst
    obtain ⟨p, e, s, m, args, below, meth, c, ⟨hx, hb, hml, hown, hr, hlk⟩, hts, hK, hSt, hNw, rfl⟩ := h
    obtain ⟨hd, rfl⟩ := hd
    have e0 : nativeFrameWords "java/lang/System" "arraycopy" 5 + 11 ≤ 60 := by decide
    have e1 : (([] : List Value).map fun v => v.category).sum + (nativeFrameWords "java/lang/System" "arraycopy" 5 + 11) ≤ (qR d).locals := by
      show 0 + _ ≤ 60 * d
      omega
    exact fun H locs lsA hP hD hS hl => va_copyi (D := yD Z) (R := qR d) (rest := []) hx hb (by rw [hml]; exact hl.1.symm) hown (hts _ hw.1) (hts _ hw.2.1) (hts _ hw.2.2.1) (hts _ hw.2.2.2) hK hP hD hS k0 k1 0 0 (q_at hs0) (q_at hs1) (ty := .int) rfl rfl rfl q.1.1 q.1.2.1 q.1.2.2 q.2.1 q.2.2 (fun _ _ => rfl) hdd e1 hd (fun H1 l1 hP1 hD1 hS1 => k H1 l1 lsA (by rw [q_setW hs1] at hP1; exact hP1) (by rw [q_setW hs1] at hD1; exact hD1) hS1 hl)
  · rw [if_neg q] at hf; cases hf
abbrev maI (x y : Int32) : Int32 := if x < y then y else x
theorem r_mmax (h : IsG Y Z own cc nL d ret ov σ' Γ) {x y : Int32} {i : Nat} (hw : Cond.methodLink own i Lib.Math.max.name ∈ tb ∧ Cond.static Lib.Math.max.name ∈ tb ∧ Cond.initialized "java/lang/Math" ∈ tb ∧ Cond.code Lib.Math.max.name Lib.Math.max.code 2 (some .int) ∈ tb) (hdd : 1 ≤ d) (hc : (st.map fun v => v.category).sum ≤ 8) (hd : decode cc pc = .ok (.invokestatic i, 3) ∧ pc + 3 = pc') (k : Γ pc' ls (.int (maI x y) :: st) σ) : Γ pc ls (.int y :: .int x :: st) σ := by
  obtain ⟨p, e, s, m, args, below, meth, c, ⟨hx, hb, hml, hown, hr, hlk⟩, hts, hK, hSt, hNw, rfl⟩ := h
  obtain ⟨hd, rfl⟩ := hd
  exact fun H locs lsA hP hD hS hl => va_mmax hx hb (by rw [hml]; exact hl.1.symm) hown (hts _ hw.1) (hts _ hw.2.1) (hts _ hw.2.2.1) (hts _ hw.2.2.2) hdd (by show _ ≤ 60 * d; omega) (Nat.le_refl _) (Nat.le_refl _) hd (k H locs lsA hP hD hS hl)
abbrev miI (x y : Int32) : Int32 := if y < x then y else x
theorem r_mmin (h : IsG Y Z own cc nL d ret ov σ' Γ) {x y : Int32} {i : Nat} (hw : Cond.methodLink own i Lib.Math.min.name ∈ tb ∧ Cond.static Lib.Math.min.name ∈ tb ∧ Cond.initialized "java/lang/Math" ∈ tb ∧ Cond.code Lib.Math.min.name Lib.Math.min.code 2 (some .int) ∈ tb) (hdd : 1 ≤ d) (hc : (st.map fun v => v.category).sum ≤ 8) (hd : decode cc pc = .ok (.invokestatic i, 3) ∧ pc + 3 = pc') (k : Γ pc' ls (.int (miI x y) :: st) σ) : Γ pc ls (.int y :: .int x :: st) σ := by
  obtain ⟨p, e, s, m, args, below, meth, c, ⟨hx, hb, hml, hown, hr, hlk⟩, hts, hK, hSt, hNw, rfl⟩ := h
  obtain ⟨hd, rfl⟩ := hd
  exact fun H locs lsA hP hD hS hl => va_mmin hx hb (by rw [hml]; exact hl.1.symm) hown (hts _ hw.1) (hts _ hw.2.1) (hts _ hw.2.2.1) (hts _ hw.2.2.2) hdd (by show _ ≤ 60 * d; omega) (Nat.le_refl _) (Nat.le_refl _) hd (k H locs lsA hP hD hS hl)
theorem r_ireturn {r : Int32} (h : IsG Y Z own cc nL d (some .int) (some (.int r)) σ' Γ) {r' : Int32} (hd : decode cc pc = .ok (.ireturn, 1)) (h1 : r' = r) (h2 : σ = σ') : Γ pc ls [.int r'] σ := by
  subst h1; subst h2
  obtain ⟨p, e, s, m, args, below, meth, c, ⟨hx, hb, hml, hown, hr, hlk⟩, hts, hK, hSt, hNw, rfl⟩ := h
  exact fun H locs lsA hP hD hS hl => W.iret hx hb hr (fun t ht hW => ⟨⟨rfl, by rw [ht]; exact hP, va_K.moved hW.alike hK, hD⟩, hS.F ht⟩) hS.2.2 hd hlk
theorem r_zreturn {r : Bool} (h : IsG Y Z own cc nL d (some .boolean) (some (.int (bi r))) σ' Γ) {r' : Int32} (hd : decode cc pc = .ok (.ireturn, 1)) (h1 : r' = bi r) (h2 : σ = σ') : Γ pc ls [.int r'] σ := by
  subst h1; subst h2
  obtain ⟨p, e, s, m, args, below, meth, c, ⟨hx, hb, hml, hown, hr, hlk⟩, hts, hK, hSt, hNw, rfl⟩ := h
  exact fun H locs lsA hP hD hS hl => W.zret hx hb hr (bi_nar r) (fun t ht hW => ⟨⟨rfl, by rw [ht]; exact hP, va_K.moved hW.alike hK, hD⟩, hS.F ht⟩) hS.2.2 hd hlk
theorem r_lreturn {r : Int64} (h : IsG Y Z own cc nL d (some .long) (some (.long r)) σ' Γ) {r' : Int64} (hd : decode cc pc = .ok (.lreturn, 1)) (h1 : r' = r) (h2 : σ = σ') : Γ pc ls [.long r'] σ := by
  subst h1; subst h2
  obtain ⟨p, e, s, m, args, below, meth, c, ⟨hx, hb, hml, hown, hr, hlk⟩, hts, hK, hSt, hNw, rfl⟩ := h
  exact fun H locs lsA hP hD hS hl => W.lret hx hb hr (fun t ht hW => ⟨⟨rfl, by rw [ht]; exact hP, va_K.moved hW.alike hK, hD⟩, hS.F ht⟩) hS.2.2 hd hlk
theorem r_vreturn (h : IsG Y Z own cc nL d none none σ' Γ) (hd : decode cc pc = .ok (.return_, 1)) (h2 : σ = σ') : Γ pc ls [] σ := by
  subst h2
  obtain ⟨p, e, s, m, args, below, meth, c, ⟨hx, hb, hml, hown, hr, hlk⟩, hts, hK, hSt, hNw, rfl⟩ := h
  exact fun H locs lsA hP hD hS hl => W.vret hx hb hr (fun t ht hW => ⟨⟨rfl, by rw [ht]; exact hP, va_K.moved hW.alike hK, hD⟩, hS.F ht⟩) hS.2.2 hd hlk
end RU
