section RU
variable {Y : Sd} {Z : Sy} {own : String} {cc : ByteArray} {nL d : Nat} {ret : Option FieldType} {ov : Option Value} {σ' : St} {Γ : Nat → List (Nat × Value) → List Value → St → Prop}
variable {pc pc' : Nat} {ls ls' : List (Nat × Value)} {st : List Value} {σ : St}
variable {α : Type} {A B : Option α} {res : α} {tgt : Nat}
theorem r_iconst (h : IsG Y Z own cc nL d ret ov σ' Γ) {n : Int} {v : Int32} (hd : decode cc pc = .ok (.iconst n, 1) ∧ pc + 1 = pc') (hv : Int32.ofInt n = v) (k : Γ pc' ls (.int v :: st) σ) : Γ pc ls st σ := by
  obtain ⟨p, e, s, m, args, below, meth, c, ⟨hx, hb, hml, hown, hr, hlk⟩, hts, hK, hSt, hNw, rfl⟩ := h
  obtain ⟨hd, rfl⟩ := hd
  exact fun H locs lsA hP hD hS hl => lv_iconst hx hb hd hv (k H locs lsA hP hD hS hl)
theorem r_bipush (h : IsG Y Z own cc nL d ret ov σ' Γ) {n : Int} {v : Int32} (hd : decode cc pc = .ok (.bipush n, 2) ∧ pc + 2 = pc') (hv : (Int8.ofInt n).toInt32 = v) (k : Γ pc' ls (.int v :: st) σ) : Γ pc ls st σ := by
  obtain ⟨p, e, s, m, args, below, meth, c, ⟨hx, hb, hml, hown, hr, hlk⟩, hts, hK, hSt, hNw, rfl⟩ := h
  obtain ⟨hd, rfl⟩ := hd
  exact fun H locs lsA hP hD hS hl => lv_bipush hx hb hd hv (k H locs lsA hP hD hS hl)
theorem r_sipush (h : IsG Y Z own cc nL d ret ov σ' Γ) {n : Int} {v : Int32} (hd : decode cc pc = .ok (.sipush n, 3) ∧ pc + 3 = pc') (hv : (Int16.ofInt n).toInt32 = v) (k : Γ pc' ls (.int v :: st) σ) : Γ pc ls st σ := by
  obtain ⟨p, e, s, m, args, below, meth, c, ⟨hx, hb, hml, hown, hr, hlk⟩, hts, hK, hSt, hNw, rfl⟩ := h
  obtain ⟨hd, rfl⟩ := hd
  exact fun H locs lsA hP hD hS hl => lv_sipush hx hb hd hv (k H locs lsA hP hD hS hl)
theorem r_lconst (h : IsG Y Z own cc nL d ret ov σ' Γ) {n : Fin 2} {v : Int64} (hd : decode cc pc = .ok (.lconst n, 1) ∧ pc + 1 = pc') (hv : Int64.ofNat (n : Nat) = v) (k : Γ pc' ls (.long v :: st) σ) : Γ pc ls st σ := by
  obtain ⟨p, e, s, m, args, below, meth, c, ⟨hx, hb, hml, hown, hr, hlk⟩, hts, hK, hSt, hNw, rfl⟩ := h
  obtain ⟨hd, rfl⟩ := hd
  exact fun H locs lsA hP hD hS hl => lv_lconst hx hb hd hv (k H locs lsA hP hD hS hl)
theorem r_ldc (h : IsG Y Z own cc nL d ret ov σ' Γ) {i : Nat} {v : Int32} (hd : decode cc pc = .ok (.ldc i, 2) ∧ pc + 2 = pc') (hc : Cond.constant own i v ∈ tb) (k : Γ pc' ls (.int v :: st) σ) : Γ pc ls st σ := by
  obtain ⟨p, e, s, m, args, below, meth, c, ⟨hx, hb, hml, hown, hr, hlk⟩, hts, hK, hSt, hNw, rfl⟩ := h
  obtain ⟨hd, rfl⟩ := hd
  exact fun H locs lsA hP hD hS hl => lv_ldc hx hb hown (hts _ hc) hd (k H locs lsA hP hD hS hl)
theorem r_ldcw (h : IsG Y Z own cc nL d ret ov σ' Γ) {i : Nat} {v : Int32} (hd : decode cc pc = .ok (.ldc_w i, 3) ∧ pc + 3 = pc') (hc : Cond.constant own i v ∈ tb) (k : Γ pc' ls (.int v :: st) σ) : Γ pc ls st σ := by
  obtain ⟨p, e, s, m, args, below, meth, c, ⟨hx, hb, hml, hown, hr, hlk⟩, hts, hK, hSt, hNw, rfl⟩ := h
  obtain ⟨hd, rfl⟩ := hd
  exact fun H locs lsA hP hD hS hl => lv_ldcw hx hb hown (hts _ hc) hd (k H locs lsA hP hD hS hl)
theorem r_ldc2 (h : IsG Y Z own cc nL d ret ov σ' Γ) {i : Nat} {v : Int64} (hd : decode cc pc = .ok (.ldc2_w i, 3) ∧ pc + 3 = pc') (hc : Cond.constantLong own i v ∈ tb) (k : Γ pc' ls (.long v :: st) σ) : Γ pc ls st σ := by
  obtain ⟨p, e, s, m, args, below, meth, c, ⟨hx, hb, hml, hown, hr, hlk⟩, hts, hK, hSt, hNw, rfl⟩ := h
  obtain ⟨hd, rfl⟩ := hd
  exact fun H locs lsA hP hD hS hl => lv_ldc2 hx hb hown (hts _ hc) hd (k H locs lsA hP hD hS hl)
theorem r_iload_n (h : IsG Y Z own cc nL d ret ov σ' Γ) {q : Fin 4} {i : Nat} {v : Int32} (hd : decode cc pc = .ok (.iload_n q, 1) ∧ pc + 1 = pc') (kk : Nat) (hk : ls[kk]? = some (i, .int v)) (hi : (q : Nat) = i) (k : Γ pc' ls (.int v :: st) σ) : Γ pc ls st σ := by
  obtain ⟨p, e, s, m, args, below, meth, c, ⟨hx, hb, hml, hown, hr, hlk⟩, hts, hK, hSt, hNw, rfl⟩ := h
  obtain ⟨hd, rfl⟩ := hd
  exact fun H locs lsA hP hD hS hl => lv_iload_n hx hb hd hi (lv_at hl kk hk) (k H locs lsA hP hD hS hl)
theorem r_iload (h : IsG Y Z own cc nL d ret ov σ' Γ) {i : Nat} {v : Int32} (hd : decode cc pc = .ok (.iload i, 2) ∧ pc + 2 = pc') (kk : Nat) (hk : ls[kk]? = some (i, .int v)) (k : Γ pc' ls (.int v :: st) σ) : Γ pc ls st σ := by
  obtain ⟨p, e, s, m, args, below, meth, c, ⟨hx, hb, hml, hown, hr, hlk⟩, hts, hK, hSt, hNw, rfl⟩ := h
  obtain ⟨hd, rfl⟩ := hd
  exact fun H locs lsA hP hD hS hl => lv_iload hx hb hd (lv_at hl kk hk) (k H locs lsA hP hD hS hl)
theorem r_lload_n (h : IsG Y Z own cc nL d ret ov σ' Γ) {q : Fin 4} {i : Nat} {v : Int64} (hd : decode cc pc = .ok (.lload_n q, 1) ∧ pc + 1 = pc') (kk : Nat) (hk : ls[kk]? = some (i, .long v)) (hi : (q : Nat) = i) (k : Γ pc' ls (.long v :: st) σ) : Γ pc ls st σ := by
  obtain ⟨p, e, s, m, args, below, meth, c, ⟨hx, hb, hml, hown, hr, hlk⟩, hts, hK, hSt, hNw, rfl⟩ := h
  obtain ⟨hd, rfl⟩ := hd
  exact fun H locs lsA hP hD hS hl => lv_lload_n hx hb hd hi (lv_at hl kk hk) (k H locs lsA hP hD hS hl)
theorem r_lload (h : IsG Y Z own cc nL d ret ov σ' Γ) {i : Nat} {v : Int64} (hd : decode cc pc = .ok (.lload i, 2) ∧ pc + 2 = pc') (kk : Nat) (hk : ls[kk]? = some (i, .long v)) (k : Γ pc' ls (.long v :: st) σ) : Γ pc ls st σ := by
  obtain ⟨p, e, s, m, args, below, meth, c, ⟨hx, hb, hml, hown, hr, hlk⟩, hts, hK, hSt, hNw, rfl⟩ := h
  obtain ⟨hd, rfl⟩ := hd
  exact fun H locs lsA hP hD hS hl => lv_lload hx hb hd (lv_at hl kk hk) (k H locs lsA hP hD hS hl)
theorem r_aload_n (h : IsG Y Z own cc nL d ret ov σ' Γ) {q : Fin 4} {i : Nat} {v : Nat} (hd : decode cc pc = .ok (.aload_n q, 1) ∧ pc + 1 = pc') (kk : Nat) (hk : ls[kk]? = some (i, .ref v)) (hi : (q : Nat) = i) (k : Γ pc' ls (.ref v :: st) σ) : Γ pc ls st σ := by
  obtain ⟨p, e, s, m, args, below, meth, c, ⟨hx, hb, hml, hown, hr, hlk⟩, hts, hK, hSt, hNw, rfl⟩ := h
  obtain ⟨hd, rfl⟩ := hd
  exact fun H locs lsA hP hD hS hl => lv_aload_n hx hb hd hi (lv_at hl kk hk) (k H locs lsA hP hD hS hl)
theorem r_aload (h : IsG Y Z own cc nL d ret ov σ' Γ) {i : Nat} {v : Nat} (hd : decode cc pc = .ok (.aload i, 2) ∧ pc + 2 = pc') (kk : Nat) (hk : ls[kk]? = some (i, .ref v)) (k : Γ pc' ls (.ref v :: st) σ) : Γ pc ls st σ := by
  obtain ⟨p, e, s, m, args, below, meth, c, ⟨hx, hb, hml, hown, hr, hlk⟩, hts, hK, hSt, hNw, rfl⟩ := h
  obtain ⟨hd, rfl⟩ := hd
  exact fun H locs lsA hP hD hS hl => lv_aload hx hb hd (lv_at hl kk hk) (k H locs lsA hP hD hS hl)
theorem r_istore_n (h : IsG Y Z own cc nL d ret ov σ' Γ) {q : Fin 4} {i : Nat} {v : Int32} (hd : decode cc pc = .ok (.istore_n q, 1) ∧ pc + 1 = pc') (hi : (q : Nat) = i) (hn : i < nL) (hl : (i, Value.int v) :: ls.filter (fun q => !(q.1 == i) && !(q.1 + 1 == i && q.2.category == 2)) = ls') (k : Γ pc' ls' st σ) : Γ pc ls (.int v :: st) σ := by
  obtain ⟨p, e, s, m, args, below, meth, c, ⟨hx, hb, hml, hown, hr, hlk⟩, hts, hK, hSt, hNw, rfl⟩ := h
  obtain ⟨hd, rfl⟩ := hd
  exact fun H locs lsA hP hD hS h1 => lv_istore_n hx hb hd hi h1 hn hl (fun l2 h2 => k H locs l2 hP hD hS h2)
theorem r_istore (h : IsG Y Z own cc nL d ret ov σ' Γ) {i : Nat} {v : Int32} (hd : decode cc pc = .ok (.istore i, 2) ∧ pc + 2 = pc') (hn : i < nL) (hl : (i, Value.int v) :: ls.filter (fun q => !(q.1 == i) && !(q.1 + 1 == i && q.2.category == 2)) = ls') (k : Γ pc' ls' st σ) : Γ pc ls (.int v :: st) σ := by
  obtain ⟨p, e, s, m, args, below, meth, c, ⟨hx, hb, hml, hown, hr, hlk⟩, hts, hK, hSt, hNw, rfl⟩ := h
  obtain ⟨hd, rfl⟩ := hd
  exact fun H locs lsA hP hD hS h1 => lv_istore hx hb hd h1 hn hl (fun l2 h2 => k H locs l2 hP hD hS h2)
theorem r_lstore_n (h : IsG Y Z own cc nL d ret ov σ' Γ) {q : Fin 4} {i : Nat} {v : Int64} (hd : decode cc pc = .ok (.lstore_n q, 1) ∧ pc + 1 = pc') (hi : (q : Nat) = i) (hn : i + 1 < nL) (hl : (i, Value.long v) :: ls.filter (fun q => !(q.1 == i) && (!(q.1 == i + 1) && !(q.1 + 1 == i && q.2.category == 2))) = ls') (k : Γ pc' ls' st σ) : Γ pc ls (.long v :: st) σ := by
  obtain ⟨p, e, s, m, args, below, meth, c, ⟨hx, hb, hml, hown, hr, hlk⟩, hts, hK, hSt, hNw, rfl⟩ := h
  obtain ⟨hd, rfl⟩ := hd
  exact fun H locs lsA hP hD hS h1 => lv_lstore_n hx hb hd hi h1 hn hl (fun l2 h2 => k H locs l2 hP hD hS h2)
theorem r_lstore (h : IsG Y Z own cc nL d ret ov σ' Γ) {i : Nat} {v : Int64} (hd : decode cc pc = .ok (.lstore i, 2) ∧ pc + 2 = pc') (hn : i + 1 < nL) (hl : (i, Value.long v) :: ls.filter (fun q => !(q.1 == i) && (!(q.1 == i + 1) && !(q.1 + 1 == i && q.2.category == 2))) = ls') (k : Γ pc' ls' st σ) : Γ pc ls (.long v :: st) σ := by
  obtain ⟨p, e, s, m, args, below, meth, c, ⟨hx, hb, hml, hown, hr, hlk⟩, hts, hK, hSt, hNw, rfl⟩ := h
  obtain ⟨hd, rfl⟩ := hd
  exact fun H locs lsA hP hD hS h1 => lv_lstore hx hb hd h1 hn hl (fun l2 h2 => k H locs l2 hP hD hS h2)
theorem r_iinc (h : IsG Y Z own cc nL d ret ov σ' Γ) {i : Nat} {n : Int} {x v : Int32} (hd : decode cc pc = .ok (.iinc i n, 3) ∧ pc + 3 = pc') (kk : Nat) (hk : ls[kk]? = some (i, .int x)) (hv : Int32.ofInt n = v) (hn : i < nL) (hl : (i, Value.int (x + v)) :: ls.filter (fun q => !(q.1 == i) && !(q.1 + 1 == i && q.2.category == 2)) = ls') (k : Γ pc' ls' st σ) : Γ pc ls st σ := by
  obtain ⟨p, e, s, m, args, below, meth, c, ⟨hx, hb, hml, hown, hr, hlk⟩, hts, hK, hSt, hNw, rfl⟩ := h
  obtain ⟨hd, rfl⟩ := hd
  subst hv
  exact fun H locs lsA hP hD hS h1 => lv_iinc hx hb hd h1 hk rfl hn hl (fun l2 h2 => k H locs l2 hP hD hS h2)
theorem r_sub (h : IsG Y Z own cc nL d ret ov σ' Γ) (ks : List Nat) (hl : lv_pick ls ks = ls') (k : Γ pc ls' st σ) : Γ pc ls st σ := by
  obtain ⟨p, e, s, m, args, below, meth, c, ⟨hx, hb, hml, hown, hr, hlk⟩, hts, hK, hSt, hNw, rfl⟩ := h
  exact fun H locs lsA hP hD hS h1 => k H locs lsA hP hD hS (lv_sub h1 ks hl)
theorem r_iadd (h : IsG Y Z own cc nL d ret ov σ' Γ) {x y : Int32} (hd : decode cc pc = .ok (.iadd, 1) ∧ pc + 1 = pc')  (k : Γ pc' ls (.int (x + y) :: st) σ) : Γ pc ls (.int y :: .int x :: st) σ := by
  obtain ⟨p, e, s, m, args, below, meth, c, ⟨hx, hb, hml, hown, hr, hlk⟩, hts, hK, hSt, hNw, rfl⟩ := h
  obtain ⟨hd, rfl⟩ := hd
  exact fun H locs lsA hP hD hS hl => lv_iadd hx hb hd  (k H locs lsA hP hD hS hl)
theorem r_isub (h : IsG Y Z own cc nL d ret ov σ' Γ) {x y : Int32} (hd : decode cc pc = .ok (.isub, 1) ∧ pc + 1 = pc')  (k : Γ pc' ls (.int (x - y) :: st) σ) : Γ pc ls (.int y :: .int x :: st) σ := by
  obtain ⟨p, e, s, m, args, below, meth, c, ⟨hx, hb, hml, hown, hr, hlk⟩, hts, hK, hSt, hNw, rfl⟩ := h
  obtain ⟨hd, rfl⟩ := hd
  exact fun H locs lsA hP hD hS hl => lv_isub hx hb hd  (k H locs lsA hP hD hS hl)
theorem r_imul (h : IsG Y Z own cc nL d ret ov σ' Γ) {x y : Int32} (hd : decode cc pc = .ok (.imul, 1) ∧ pc + 1 = pc')  (k : Γ pc' ls (.int (x * y) :: st) σ) : Γ pc ls (.int y :: .int x :: st) σ := by
  obtain ⟨p, e, s, m, args, below, meth, c, ⟨hx, hb, hml, hown, hr, hlk⟩, hts, hK, hSt, hNw, rfl⟩ := h
  obtain ⟨hd, rfl⟩ := hd
  exact fun H locs lsA hP hD hS hl => lv_imul hx hb hd  (k H locs lsA hP hD hS hl)
theorem r_iand (h : IsG Y Z own cc nL d ret ov σ' Γ) {x y : Int32} (hd : decode cc pc = .ok (.iand, 1) ∧ pc + 1 = pc')  (k : Γ pc' ls (.int (x &&& y) :: st) σ) : Γ pc ls (.int y :: .int x :: st) σ := by
  obtain ⟨p, e, s, m, args, below, meth, c, ⟨hx, hb, hml, hown, hr, hlk⟩, hts, hK, hSt, hNw, rfl⟩ := h
  obtain ⟨hd, rfl⟩ := hd
  exact fun H locs lsA hP hD hS hl => lv_iand hx hb hd  (k H locs lsA hP hD hS hl)
theorem r_ior (h : IsG Y Z own cc nL d ret ov σ' Γ) {x y : Int32} (hd : decode cc pc = .ok (.ior, 1) ∧ pc + 1 = pc')  (k : Γ pc' ls (.int (x ||| y) :: st) σ) : Γ pc ls (.int y :: .int x :: st) σ := by
  obtain ⟨p, e, s, m, args, below, meth, c, ⟨hx, hb, hml, hown, hr, hlk⟩, hts, hK, hSt, hNw, rfl⟩ := h
  obtain ⟨hd, rfl⟩ := hd
  exact fun H locs lsA hP hD hS hl => lv_ior hx hb hd  (k H locs lsA hP hD hS hl)
theorem r_ishl (h : IsG Y Z own cc nL d ret ov σ' Γ) {x y : Int32} (hd : decode cc pc = .ok (.ishl, 1) ∧ pc + 1 = pc')  (k : Γ pc' ls (.int (x <<< (y &&& 31)) :: st) σ) : Γ pc ls (.int y :: .int x :: st) σ := by
  obtain ⟨p, e, s, m, args, below, meth, c, ⟨hx, hb, hml, hown, hr, hlk⟩, hts, hK, hSt, hNw, rfl⟩ := h
  obtain ⟨hd, rfl⟩ := hd
  exact fun H locs lsA hP hD hS hl => lv_ishl hx hb hd  (k H locs lsA hP hD hS hl)
theorem r_ishr (h : IsG Y Z own cc nL d ret ov σ' Γ) {x y : Int32} (hd : decode cc pc = .ok (.ishr, 1) ∧ pc + 1 = pc')  (k : Γ pc' ls (.int (x >>> (y &&& 31)) :: st) σ) : Γ pc ls (.int y :: .int x :: st) σ := by
  obtain ⟨p, e, s, m, args, below, meth, c, ⟨hx, hb, hml, hown, hr, hlk⟩, hts, hK, hSt, hNw, rfl⟩ := h
  obtain ⟨hd, rfl⟩ := hd
  exact fun H locs lsA hP hD hS hl => lv_ishr hx hb hd  (k H locs lsA hP hD hS hl)
theorem r_idiv (h : IsG Y Z own cc nL d ret ov σ' Γ) {x y : Int32} (hd : decode cc pc = .ok (.idiv, 1) ∧ pc + 1 = pc') (hne : ¬ y = 0) (k : Γ pc' ls (.int (x / y) :: st) σ) : Γ pc ls (.int y :: .int x :: st) σ := by
  obtain ⟨p, e, s, m, args, below, meth, c, ⟨hx, hb, hml, hown, hr, hlk⟩, hts, hK, hSt, hNw, rfl⟩ := h
  obtain ⟨hd, rfl⟩ := hd
  exact fun H locs lsA hP hD hS hl => lv_idiv hx hb hd hne (k H locs lsA hP hD hS hl)
theorem r_irem (h : IsG Y Z own cc nL d ret ov σ' Γ) {x y : Int32} (hd : decode cc pc = .ok (.irem, 1) ∧ pc + 1 = pc') (hne : ¬ y = 0) (k : Γ pc' ls (.int (x - x / y * y) :: st) σ) : Γ pc ls (.int y :: .int x :: st) σ := by
  obtain ⟨p, e, s, m, args, below, meth, c, ⟨hx, hb, hml, hown, hr, hlk⟩, hts, hK, hSt, hNw, rfl⟩ := h
  obtain ⟨hd, rfl⟩ := hd
  exact fun H locs lsA hP hD hS hl => lv_irem hx hb hd hne (k H locs lsA hP hD hS hl)
theorem r_ladd (h : IsG Y Z own cc nL d ret ov σ' Γ) {x y : Int64} (hd : decode cc pc = .ok (.ladd, 1) ∧ pc + 1 = pc')  (k : Γ pc' ls (.long (x + y) :: st) σ) : Γ pc ls (.long y :: .long x :: st) σ := by
  obtain ⟨p, e, s, m, args, below, meth, c, ⟨hx, hb, hml, hown, hr, hlk⟩, hts, hK, hSt, hNw, rfl⟩ := h
  obtain ⟨hd, rfl⟩ := hd
  exact fun H locs lsA hP hD hS hl => lv_ladd hx hb hd  (k H locs lsA hP hD hS hl)
theorem r_lsub (h : IsG Y Z own cc nL d ret ov σ' Γ) {x y : Int64} (hd : decode cc pc = .ok (.lsub, 1) ∧ pc + 1 = pc')  (k : Γ pc' ls (.long (x - y) :: st) σ) : Γ pc ls (.long y :: .long x :: st) σ := by
  obtain ⟨p, e, s, m, args, below, meth, c, ⟨hx, hb, hml, hown, hr, hlk⟩, hts, hK, hSt, hNw, rfl⟩ := h
  obtain ⟨hd, rfl⟩ := hd
  exact fun H locs lsA hP hD hS hl => lv_lsub hx hb hd  (k H locs lsA hP hD hS hl)
theorem r_lmul (h : IsG Y Z own cc nL d ret ov σ' Γ) {x y : Int64} (hd : decode cc pc = .ok (.lmul, 1) ∧ pc + 1 = pc')  (k : Γ pc' ls (.long (x * y) :: st) σ) : Γ pc ls (.long y :: .long x :: st) σ := by
  obtain ⟨p, e, s, m, args, below, meth, c, ⟨hx, hb, hml, hown, hr, hlk⟩, hts, hK, hSt, hNw, rfl⟩ := h
  obtain ⟨hd, rfl⟩ := hd
  exact fun H locs lsA hP hD hS hl => lv_lmul hx hb hd  (k H locs lsA hP hD hS hl)
theorem r_land (h : IsG Y Z own cc nL d ret ov σ' Γ) {x y : Int64} (hd : decode cc pc = .ok (.land, 1) ∧ pc + 1 = pc')  (k : Γ pc' ls (.long (x &&& y) :: st) σ) : Γ pc ls (.long y :: .long x :: st) σ := by
  obtain ⟨p, e, s, m, args, below, meth, c, ⟨hx, hb, hml, hown, hr, hlk⟩, hts, hK, hSt, hNw, rfl⟩ := h
  obtain ⟨hd, rfl⟩ := hd
  exact fun H locs lsA hP hD hS hl => lv_land hx hb hd  (k H locs lsA hP hD hS hl)
theorem r_lor (h : IsG Y Z own cc nL d ret ov σ' Γ) {x y : Int64} (hd : decode cc pc = .ok (.lor, 1) ∧ pc + 1 = pc')  (k : Γ pc' ls (.long (x ||| y) :: st) σ) : Γ pc ls (.long y :: .long x :: st) σ := by
  obtain ⟨p, e, s, m, args, below, meth, c, ⟨hx, hb, hml, hown, hr, hlk⟩, hts, hK, hSt, hNw, rfl⟩ := h
  obtain ⟨hd, rfl⟩ := hd
  exact fun H locs lsA hP hD hS hl => lv_lor hx hb hd  (k H locs lsA hP hD hS hl)
theorem r_lxor (h : IsG Y Z own cc nL d ret ov σ' Γ) {x y : Int64} (hd : decode cc pc = .ok (.lxor, 1) ∧ pc + 1 = pc')  (k : Γ pc' ls (.long (x ^^^ y) :: st) σ) : Γ pc ls (.long y :: .long x :: st) σ := by
  obtain ⟨p, e, s, m, args, below, meth, c, ⟨hx, hb, hml, hown, hr, hlk⟩, hts, hK, hSt, hNw, rfl⟩ := h
  obtain ⟨hd, rfl⟩ := hd
  exact fun H locs lsA hP hD hS hl => lv_lxor hx hb hd  (k H locs lsA hP hD hS hl)
theorem r_ldiv (h : IsG Y Z own cc nL d ret ov σ' Γ) {x y : Int64} (hd : decode cc pc = .ok (.ldiv, 1) ∧ pc + 1 = pc') (hne : ¬ y = 0) (k : Γ pc' ls (.long (x / y) :: st) σ) : Γ pc ls (.long y :: .long x :: st) σ := by
  obtain ⟨p, e, s, m, args, below, meth, c, ⟨hx, hb, hml, hown, hr, hlk⟩, hts, hK, hSt, hNw, rfl⟩ := h
  obtain ⟨hd, rfl⟩ := hd
  exact fun H locs lsA hP hD hS hl => lv_ldiv hx hb hd hne (k H locs lsA hP hD hS hl)
theorem r_lshl (h : IsG Y Z own cc nL d ret ov σ' Γ) {x : Int64} {y : Int32} (hd : decode cc pc = .ok (.lshl, 1) ∧ pc + 1 = pc') (k : Γ pc' ls (.long (x <<< (y.toInt64 &&& 63)) :: st) σ) : Γ pc ls (.int y :: .long x :: st) σ := by
  obtain ⟨p, e, s, m, args, below, meth, c, ⟨hx, hb, hml, hown, hr, hlk⟩, hts, hK, hSt, hNw, rfl⟩ := h
  obtain ⟨hd, rfl⟩ := hd
  exact fun H locs lsA hP hD hS hl => lv_lshl hx hb hd rfl (k H locs lsA hP hD hS hl)
theorem r_lshr (h : IsG Y Z own cc nL d ret ov σ' Γ) {x : Int64} {y : Int32} (hd : decode cc pc = .ok (.lshr, 1) ∧ pc + 1 = pc') (k : Γ pc' ls (.long (x >>> (y.toInt64 &&& 63)) :: st) σ) : Γ pc ls (.int y :: .long x :: st) σ := by
  obtain ⟨p, e, s, m, args, below, meth, c, ⟨hx, hb, hml, hown, hr, hlk⟩, hts, hK, hSt, hNw, rfl⟩ := h
  obtain ⟨hd, rfl⟩ := hd
  exact fun H locs lsA hP hD hS hl => lv_lshr hx hb hd rfl (k H locs lsA hP hD hS hl)
theorem r_ineg (h : IsG Y Z own cc nL d ret ov σ' Γ) {x : Int32} (hd : decode cc pc = .ok (.ineg, 1) ∧ pc + 1 = pc') (k : Γ pc' ls (.int (-x) :: st) σ) : Γ pc ls (.int x :: st) σ := by
  obtain ⟨p, e, s, m, args, below, meth, c, ⟨hx, hb, hml, hown, hr, hlk⟩, hts, hK, hSt, hNw, rfl⟩ := h
  obtain ⟨hd, rfl⟩ := hd
  exact fun H locs lsA hP hD hS hl => lv_ineg hx hb hd  (k H locs lsA hP hD hS hl)
theorem r_i2l (h : IsG Y Z own cc nL d ret ov σ' Γ) {x : Int32} (hd : decode cc pc = .ok (.i2l, 1) ∧ pc + 1 = pc') (k : Γ pc' ls (.long (x.toInt64) :: st) σ) : Γ pc ls (.int x :: st) σ := by
  obtain ⟨p, e, s, m, args, below, meth, c, ⟨hx, hb, hml, hown, hr, hlk⟩, hts, hK, hSt, hNw, rfl⟩ := h
  obtain ⟨hd, rfl⟩ := hd
  exact fun H locs lsA hP hD hS hl => lv_i2l hx hb hd rfl (k H locs lsA hP hD hS hl)
theorem r_l2i (h : IsG Y Z own cc nL d ret ov σ' Γ) {x : Int64} (hd : decode cc pc = .ok (.l2i, 1) ∧ pc + 1 = pc') (k : Γ pc' ls (.int (x.toInt32) :: st) σ) : Γ pc ls (.long x :: st) σ := by
  obtain ⟨p, e, s, m, args, below, meth, c, ⟨hx, hb, hml, hown, hr, hlk⟩, hts, hK, hSt, hNw, rfl⟩ := h
  obtain ⟨hd, rfl⟩ := hd
  exact fun H locs lsA hP hD hS hl => lv_l2i hx hb hd rfl (k H locs lsA hP hD hS hl)
theorem r_i2b (h : IsG Y Z own cc nL d ret ov σ' Γ) {x : Int32} (hd : decode cc pc = .ok (.i2b, 1) ∧ pc + 1 = pc') (k : Γ pc' ls (.int (x.toInt8.toInt32) :: st) σ) : Γ pc ls (.int x :: st) σ := by
  obtain ⟨p, e, s, m, args, below, meth, c, ⟨hx, hb, hml, hown, hr, hlk⟩, hts, hK, hSt, hNw, rfl⟩ := h
  obtain ⟨hd, rfl⟩ := hd
  exact fun H locs lsA hP hD hS hl => lv_i2b hx hb hd rfl (k H locs lsA hP hD hS hl)
theorem r_i2s (h : IsG Y Z own cc nL d ret ov σ' Γ) {x : Int32} (hd : decode cc pc = .ok (.i2s, 1) ∧ pc + 1 = pc') (k : Γ pc' ls (.int (x.toInt16.toInt32) :: st) σ) : Γ pc ls (.int x :: st) σ := by
  obtain ⟨p, e, s, m, args, below, meth, c, ⟨hx, hb, hml, hown, hr, hlk⟩, hts, hK, hSt, hNw, rfl⟩ := h
  obtain ⟨hd, rfl⟩ := hd
  exact fun H locs lsA hP hD hS hl => lv_i2s hx hb hd rfl (k H locs lsA hP hD hS hl)
theorem r_iushr (h : IsG Y Z own cc nL d ret ov σ' Γ) {x y : Int32} (hd : decode cc pc = .ok (.iushr, 1) ∧ pc + 1 = pc') (k : Γ pc' ls (.int ((x.toUInt32 >>> (y.toUInt32 &&& Int32.toUInt32 31)).toInt32) :: st) σ) : Γ pc ls (.int y :: .int x :: st) σ := by
  obtain ⟨p, e, s, m, args, below, meth, c, ⟨hx, hb, hml, hown, hr, hlk⟩, hts, hK, hSt, hNw, rfl⟩ := h
  obtain ⟨hd, rfl⟩ := hd
  exact fun H locs lsA hP hD hS hl => lv_iushr hx hb hd rfl (k H locs lsA hP hD hS hl)
theorem r_dup (h : IsG Y Z own cc nL d ret ov σ' Γ) {a : Value} (hd : decode cc pc = .ok (.dup, 1) ∧ pc + 1 = pc') (ha : a.category = 1) (k : Γ pc' ls (a :: a :: st) σ) : Γ pc ls (a :: st) σ := by
  obtain ⟨p, e, s, m, args, below, meth, c, ⟨hx, hb, hml, hown, hr, hlk⟩, hts, hK, hSt, hNw, rfl⟩ := h
  obtain ⟨hd, rfl⟩ := hd
  exact fun H locs lsA hP hD hS hl => lv_dup hx hb hd ha (k H locs lsA hP hD hS hl)
theorem r_dup_x1 (h : IsG Y Z own cc nL d ret ov σ' Γ) {a b : Value} (hd : decode cc pc = .ok (.dup_x1, 1) ∧ pc + 1 = pc') (ha : a.category = 1) (hb2 : b.category = 1) (k : Γ pc' ls (a :: b :: a :: st) σ) : Γ pc ls (a :: b :: st) σ := by
  obtain ⟨p, e, s, m, args, below, meth, c, ⟨hx, hb, hml, hown, hr, hlk⟩, hts, hK, hSt, hNw, rfl⟩ := h
  obtain ⟨hd, rfl⟩ := hd
  exact fun H locs lsA hP hD hS hl => lv_dup_x1 hx hb hd ha hb2 (k H locs lsA hP hD hS hl)
theorem r_dup2 (h : IsG Y Z own cc nL d ret ov σ' Γ) {a b : Value} (hd : decode cc pc = .ok (.dup2, 1) ∧ pc + 1 = pc') (ha : a.category = 1) (hb2 : b.category = 1) (k : Γ pc' ls (a :: b :: a :: b :: st) σ) : Γ pc ls (a :: b :: st) σ := by
  obtain ⟨p, e, s, m, args, below, meth, c, ⟨hx, hb, hml, hown, hr, hlk⟩, hts, hK, hSt, hNw, rfl⟩ := h
  obtain ⟨hd, rfl⟩ := hd
  exact fun H locs lsA hP hD hS hl => lv_dup2_11 hx hb hd ha hb2 (k H locs lsA hP hD hS hl)
theorem r_goto (h : IsG Y Z own cc nL d ret ov σ' Γ) {off : Int} (hd : decode cc pc = .ok (.goto off, 3) ∧ (pc : Int) + off = (pc' : Int)) (k : Γ pc' ls st σ) : Γ pc ls st σ := by
  obtain ⟨p, e, s, m, args, below, meth, c, ⟨hx, hb, hml, hown, hr, hlk⟩, hts, hK, hSt, hNw, rfl⟩ := h
  exact fun H locs lsA hP hD hS hl => lv_goto hx hb hd.1 hd.2 (k H locs lsA hP hD hS hl)
theorem r_icmp_eq (h : IsG Y Z own cc nL d ret ov σ' Γ) {x y : Int32} {off : Int} (hd : decode cc pc = .ok (.if_icmp .eq off, 3) ∧ pc + 3 = pc' ∧ (pc : Int) + off = (tgt : Int)) (hf : (if x = y then A else B) = some res) (k1 : A = some res → Γ tgt ls st σ) (k2 : B = some res → Γ pc' ls st σ) : Γ pc ls (.int y :: .int x :: st) σ := by
  obtain ⟨p, e, s, m, args, below, meth, c, ⟨hx, hb, hml, hown, hr, hlk⟩, hts, hK, hSt, hNw, rfl⟩ := h
  obtain ⟨hd, rfl, ht⟩ := hd
  exact fun H locs lsA hP hD hS hl => lv_icmp_eq hx hb hd ht (fun q => k1 ((if_pos q).symm.trans hf) H locs lsA hP hD hS hl) (fun q => k2 ((if_neg q).symm.trans hf) H locs lsA hP hD hS hl)
theorem r_if_eq (h : IsG Y Z own cc nL d ret ov σ' Γ) {x : Int32} {off : Int} (hd : decode cc pc = .ok (.ifCond .eq off, 3) ∧ pc + 3 = pc' ∧ (pc : Int) + off = (tgt : Int)) (hf : (if x = 0 then A else B) = some res) (k1 : A = some res → Γ tgt ls st σ) (k2 : B = some res → Γ pc' ls st σ) : Γ pc ls (.int x :: st) σ := by
  obtain ⟨p, e, s, m, args, below, meth, c, ⟨hx, hb, hml, hown, hr, hlk⟩, hts, hK, hSt, hNw, rfl⟩ := h
  obtain ⟨hd, rfl, ht⟩ := hd
  exact fun H locs lsA hP hD hS hl => lv_if_eq hx hb hd ht (fun q => k1 ((if_pos q).symm.trans hf) H locs lsA hP hD hS hl) (fun q => k2 ((if_neg q).symm.trans hf) H locs lsA hP hD hS hl)
theorem r_if_eq_T (h : IsG Y Z own cc nL d ret ov σ' Γ) {x : Int32} {off : Int} (hd : decode cc pc = .ok (.ifCond .eq off, 3) ∧ pc + 3 = pc' ∧ (pc : Int) + off = (tgt : Int)) (hc : x = 0) (k1 : Γ tgt ls st σ) : Γ pc ls (.int x :: st) σ := by
  obtain ⟨p, e, s, m, args, below, meth, c, ⟨hx, hb, hml, hown, hr, hlk⟩, hts, hK, hSt, hNw, rfl⟩ := h
  obtain ⟨hd, rfl, ht⟩ := hd
  exact fun H locs lsA hP hD hS hl => lv_if_eq hx hb hd ht (fun _ => k1 H locs lsA hP hD hS hl) (fun q => absurd hc q)
theorem r_if_eq_F (h : IsG Y Z own cc nL d ret ov σ' Γ) {x : Int32} {off : Int} (hd : decode cc pc = .ok (.ifCond .eq off, 3) ∧ pc + 3 = pc' ∧ (pc : Int) + off = (tgt : Int)) (hc : ¬ (x = 0)) (k1 : Γ pc' ls st σ) : Γ pc ls (.int x :: st) σ := by
  obtain ⟨p, e, s, m, args, below, meth, c, ⟨hx, hb, hml, hown, hr, hlk⟩, hts, hK, hSt, hNw, rfl⟩ := h
  obtain ⟨hd, rfl, ht⟩ := hd
  exact fun H locs lsA hP hD hS hl => lv_if_eq hx hb hd ht (fun q => absurd q hc) (fun _ => k1 H locs lsA hP hD hS hl)
theorem r_icmp_ne (h : IsG Y Z own cc nL d ret ov σ' Γ) {x y : Int32} {off : Int} (hd : decode cc pc = .ok (.if_icmp .ne off, 3) ∧ pc + 3 = pc' ∧ (pc : Int) + off = (tgt : Int)) (hf : (if x = y then B else A) = some res) (k1 : A = some res → Γ tgt ls st σ) (k2 : B = some res → Γ pc' ls st σ) : Γ pc ls (.int y :: .int x :: st) σ := by
  obtain ⟨p, e, s, m, args, below, meth, c, ⟨hx, hb, hml, hown, hr, hlk⟩, hts, hK, hSt, hNw, rfl⟩ := h
  obtain ⟨hd, rfl, ht⟩ := hd
  exact fun H locs lsA hP hD hS hl => lv_icmp_ne hx hb hd ht (fun q => k1 ((if_neg q).symm.trans hf) H locs lsA hP hD hS hl) (fun q => k2 ((if_pos q).symm.trans hf) H locs lsA hP hD hS hl)
theorem r_if_ne (h : IsG Y Z own cc nL d ret ov σ' Γ) {x : Int32} {off : Int} (hd : decode cc pc = .ok (.ifCond .ne off, 3) ∧ pc + 3 = pc' ∧ (pc : Int) + off = (tgt : Int)) (hf : (if x = 0 then B else A) = some res) (k1 : A = some res → Γ tgt ls st σ) (k2 : B = some res → Γ pc' ls st σ) : Γ pc ls (.int x :: st) σ := by
  obtain ⟨p, e, s, m, args, below, meth, c, ⟨hx, hb, hml, hown, hr, hlk⟩, hts, hK, hSt, hNw, rfl⟩ := h
  obtain ⟨hd, rfl, ht⟩ := hd
  exact fun H locs lsA hP hD hS hl => lv_if_ne hx hb hd ht (fun q => k1 ((if_neg q).symm.trans hf) H locs lsA hP hD hS hl) (fun q => k2 ((if_pos q).symm.trans hf) H locs lsA hP hD hS hl)
theorem r_if_ne_T (h : IsG Y Z own cc nL d ret ov σ' Γ) {x : Int32} {off : Int} (hd : decode cc pc = .ok (.ifCond .ne off, 3) ∧ pc + 3 = pc' ∧ (pc : Int) + off = (tgt : Int)) (hc : ¬ (x = 0)) (k1 : Γ tgt ls st σ) : Γ pc ls (.int x :: st) σ := by
  obtain ⟨p, e, s, m, args, below, meth, c, ⟨hx, hb, hml, hown, hr, hlk⟩, hts, hK, hSt, hNw, rfl⟩ := h
  obtain ⟨hd, rfl, ht⟩ := hd
  exact fun H locs lsA hP hD hS hl => lv_if_ne hx hb hd ht (fun _ => k1 H locs lsA hP hD hS hl) (fun q => absurd q hc)
theorem r_if_ne_F (h : IsG Y Z own cc nL d ret ov σ' Γ) {x : Int32} {off : Int} (hd : decode cc pc = .ok (.ifCond .ne off, 3) ∧ pc + 3 = pc' ∧ (pc : Int) + off = (tgt : Int)) (hc : x = 0) (k1 : Γ pc' ls st σ) : Γ pc ls (.int x :: st) σ := by
  obtain ⟨p, e, s, m, args, below, meth, c, ⟨hx, hb, hml, hown, hr, hlk⟩, hts, hK, hSt, hNw, rfl⟩ := h
  obtain ⟨hd, rfl, ht⟩ := hd
  exact fun H locs lsA hP hD hS hl => lv_if_ne hx hb hd ht (fun q => absurd hc q) (fun _ => k1 H locs lsA hP hD hS hl)
theorem r_icmp_lt (h : IsG Y Z own cc nL d ret ov σ' Γ) {x y : Int32} {off : Int} (hd : decode cc pc = .ok (.if_icmp .lt off, 3) ∧ pc + 3 = pc' ∧ (pc : Int) + off = (tgt : Int)) (hf : (if x < y then A else B) = some res) (k1 : A = some res → Γ tgt ls st σ) (k2 : B = some res → Γ pc' ls st σ) : Γ pc ls (.int y :: .int x :: st) σ := by
  obtain ⟨p, e, s, m, args, below, meth, c, ⟨hx, hb, hml, hown, hr, hlk⟩, hts, hK, hSt, hNw, rfl⟩ := h
  obtain ⟨hd, rfl, ht⟩ := hd
  exact fun H locs lsA hP hD hS hl => lv_icmp_lt hx hb hd ht (fun q => k1 ((if_pos q).symm.trans hf) H locs lsA hP hD hS hl) (fun q => k2 ((if_neg q).symm.trans hf) H locs lsA hP hD hS hl)
theorem r_if_lt (h : IsG Y Z own cc nL d ret ov σ' Γ) {x : Int32} {off : Int} (hd : decode cc pc = .ok (.ifCond .lt off, 3) ∧ pc + 3 = pc' ∧ (pc : Int) + off = (tgt : Int)) (hf : (if x < 0 then A else B) = some res) (k1 : A = some res → Γ tgt ls st σ) (k2 : B = some res → Γ pc' ls st σ) : Γ pc ls (.int x :: st) σ := by
  obtain ⟨p, e, s, m, args, below, meth, c, ⟨hx, hb, hml, hown, hr, hlk⟩, hts, hK, hSt, hNw, rfl⟩ := h
  obtain ⟨hd, rfl, ht⟩ := hd
  exact fun H locs lsA hP hD hS hl => lv_if_lt hx hb hd ht (fun q => k1 ((if_pos q).symm.trans hf) H locs lsA hP hD hS hl) (fun q => k2 ((if_neg q).symm.trans hf) H locs lsA hP hD hS hl)
theorem r_if_lt_T (h : IsG Y Z own cc nL d ret ov σ' Γ) {x : Int32} {off : Int} (hd : decode cc pc = .ok (.ifCond .lt off, 3) ∧ pc + 3 = pc' ∧ (pc : Int) + off = (tgt : Int)) (hc : x < 0) (k1 : Γ tgt ls st σ) : Γ pc ls (.int x :: st) σ := by
  obtain ⟨p, e, s, m, args, below, meth, c, ⟨hx, hb, hml, hown, hr, hlk⟩, hts, hK, hSt, hNw, rfl⟩ := h
  obtain ⟨hd, rfl, ht⟩ := hd
  exact fun H locs lsA hP hD hS hl => lv_if_lt hx hb hd ht (fun _ => k1 H locs lsA hP hD hS hl) (fun q => absurd hc q)
theorem r_if_lt_F (h : IsG Y Z own cc nL d ret ov σ' Γ) {x : Int32} {off : Int} (hd : decode cc pc = .ok (.ifCond .lt off, 3) ∧ pc + 3 = pc' ∧ (pc : Int) + off = (tgt : Int)) (hc : ¬ (x < 0)) (k1 : Γ pc' ls st σ) : Γ pc ls (.int x :: st) σ := by
  obtain ⟨p, e, s, m, args, below, meth, c, ⟨hx, hb, hml, hown, hr, hlk⟩, hts, hK, hSt, hNw, rfl⟩ := h
  obtain ⟨hd, rfl, ht⟩ := hd
  exact fun H locs lsA hP hD hS hl => lv_if_lt hx hb hd ht (fun q => absurd q hc) (fun _ => k1 H locs lsA hP hD hS hl)
theorem r_icmp_ge (h : IsG Y Z own cc nL d ret ov σ' Γ) {x y : Int32} {off : Int} (hd : decode cc pc = .ok (.if_icmp .ge off, 3) ∧ pc + 3 = pc' ∧ (pc : Int) + off = (tgt : Int)) (hf : (if y ≤ x then A else B) = some res) (k1 : A = some res → Γ tgt ls st σ) (k2 : B = some res → Γ pc' ls st σ) : Γ pc ls (.int y :: .int x :: st) σ := by
  obtain ⟨p, e, s, m, args, below, meth, c, ⟨hx, hb, hml, hown, hr, hlk⟩, hts, hK, hSt, hNw, rfl⟩ := h
  obtain ⟨hd, rfl, ht⟩ := hd
  exact fun H locs lsA hP hD hS hl => lv_icmp_ge hx hb hd ht (fun q => k1 ((if_pos q).symm.trans hf) H locs lsA hP hD hS hl) (fun q => k2 ((if_neg q).symm.trans hf) H locs lsA hP hD hS hl)
theorem r_if_ge (h : IsG Y Z own cc nL d ret ov σ' Γ) {x : Int32} {off : Int} (hd : decode cc pc = .ok (.ifCond .ge off, 3) ∧ pc + 3 = pc' ∧ (pc : Int) + off = (tgt : Int)) (hf : (if 0 ≤ x then A else B) = some res) (k1 : A = some res → Γ tgt ls st σ) (k2 : B = some res → Γ pc' ls st σ) : Γ pc ls (.int x :: st) σ := by
  obtain ⟨p, e, s, m, args, below, meth, c, ⟨hx, hb, hml, hown, hr, hlk⟩, hts, hK, hSt, hNw, rfl⟩ := h
  obtain ⟨hd, rfl, ht⟩ := hd
  exact fun H locs lsA hP hD hS hl => lv_if_ge hx hb hd ht (fun q => k1 ((if_pos q).symm.trans hf) H locs lsA hP hD hS hl) (fun q => k2 ((if_neg q).symm.trans hf) H locs lsA hP hD hS hl)
theorem r_if_ge_T (h : IsG Y Z own cc nL d ret ov σ' Γ) {x : Int32} {off : Int} (hd : decode cc pc = .ok (.ifCond .ge off, 3) ∧ pc + 3 = pc' ∧ (pc : Int) + off = (tgt : Int)) (hc : 0 ≤ x) (k1 : Γ tgt ls st σ) : Γ pc ls (.int x :: st) σ := by
  obtain ⟨p, e, s, m, args, below, meth, c, ⟨hx, hb, hml, hown, hr, hlk⟩, hts, hK, hSt, hNw, rfl⟩ := h
  obtain ⟨hd, rfl, ht⟩ := hd
  exact fun H locs lsA hP hD hS hl => lv_if_ge hx hb hd ht (fun _ => k1 H locs lsA hP hD hS hl) (fun q => absurd hc q)
theorem r_if_ge_F (h : IsG Y Z own cc nL d ret ov σ' Γ) {x : Int32} {off : Int} (hd : decode cc pc = .ok (.ifCond .ge off, 3) ∧ pc + 3 = pc' ∧ (pc : Int) + off = (tgt : Int)) (hc : ¬ (0 ≤ x)) (k1 : Γ pc' ls st σ) : Γ pc ls (.int x :: st) σ := by
  obtain ⟨p, e, s, m, args, below, meth, c, ⟨hx, hb, hml, hown, hr, hlk⟩, hts, hK, hSt, hNw, rfl⟩ := h
  obtain ⟨hd, rfl, ht⟩ := hd
  exact fun H locs lsA hP hD hS hl => lv_if_ge hx hb hd ht (fun q => absurd q hc) (fun _ => k1 H locs lsA hP hD hS hl)
theorem r_icmp_gt (h : IsG Y Z own cc nL d ret ov σ' Γ) {x y : Int32} {off : Int} (hd : decode cc pc = .ok (.if_icmp .gt off, 3) ∧ pc + 3 = pc' ∧ (pc : Int) + off = (tgt : Int)) (hf : (if y < x then A else B) = some res) (k1 : A = some res → Γ tgt ls st σ) (k2 : B = some res → Γ pc' ls st σ) : Γ pc ls (.int y :: .int x :: st) σ := by
  obtain ⟨p, e, s, m, args, below, meth, c, ⟨hx, hb, hml, hown, hr, hlk⟩, hts, hK, hSt, hNw, rfl⟩ := h
  obtain ⟨hd, rfl, ht⟩ := hd
  exact fun H locs lsA hP hD hS hl => lv_icmp_gt hx hb hd ht (fun q => k1 ((if_pos q).symm.trans hf) H locs lsA hP hD hS hl) (fun q => k2 ((if_neg q).symm.trans hf) H locs lsA hP hD hS hl)
theorem r_if_gt (h : IsG Y Z own cc nL d ret ov σ' Γ) {x : Int32} {off : Int} (hd : decode cc pc = .ok (.ifCond .gt off, 3) ∧ pc + 3 = pc' ∧ (pc : Int) + off = (tgt : Int)) (hf : (if 0 < x then A else B) = some res) (k1 : A = some res → Γ tgt ls st σ) (k2 : B = some res → Γ pc' ls st σ) : Γ pc ls (.int x :: st) σ := by
  obtain ⟨p, e, s, m, args, below, meth, c, ⟨hx, hb, hml, hown, hr, hlk⟩, hts, hK, hSt, hNw, rfl⟩ := h
  obtain ⟨hd, rfl, ht⟩ := hd
  exact fun H locs lsA hP hD hS hl => lv_if_gt hx hb hd ht (fun q => k1 ((if_pos q).symm.trans hf) H locs lsA hP hD hS hl) (fun q => k2 ((if_neg q).symm.trans hf) H locs lsA hP hD hS hl)
theorem r_if_gt_T (h : IsG Y Z own cc nL d ret ov σ' Γ) {x : Int32} {off : Int} (hd : decode cc pc = .ok (.ifCond .gt off, 3) ∧ pc + 3 = pc' ∧ (pc : Int) + off = (tgt : Int)) (hc : 0 < x) (k1 : Γ tgt ls st σ) : Γ pc ls (.int x :: st) σ := by
  obtain ⟨p, e, s, m, args, below, meth, c, ⟨hx, hb, hml, hown, hr, hlk⟩, hts, hK, hSt, hNw, rfl⟩ := h
  obtain ⟨hd, rfl, ht⟩ := hd
  exact fun H locs lsA hP hD hS hl => lv_if_gt hx hb hd ht (fun _ => k1 H locs lsA hP hD hS hl) (fun q => absurd hc q)
theorem r_if_gt_F (h : IsG Y Z own cc nL d ret ov σ' Γ) {x : Int32} {off : Int} (hd : decode cc pc = .ok (.ifCond .gt off, 3) ∧ pc + 3 = pc' ∧ (pc : Int) + off = (tgt : Int)) (hc : ¬ (0 < x)) (k1 : Γ pc' ls st σ) : Γ pc ls (.int x :: st) σ := by
  obtain ⟨p, e, s, m, args, below, meth, c, ⟨hx, hb, hml, hown, hr, hlk⟩, hts, hK, hSt, hNw, rfl⟩ := h
  obtain ⟨hd, rfl, ht⟩ := hd
  exact fun H locs lsA hP hD hS hl => lv_if_gt hx hb hd ht (fun q => absurd q hc) (fun _ => k1 H locs lsA hP hD hS hl)
theorem r_icmp_le (h : IsG Y Z own cc nL d ret ov σ' Γ) {x y : Int32} {off : Int} (hd : decode cc pc = .ok (.if_icmp .le off, 3) ∧ pc + 3 = pc' ∧ (pc : Int) + off = (tgt : Int)) (hf : (if x ≤ y then A else B) = some res) (k1 : A = some res → Γ tgt ls st σ) (k2 : B = some res → Γ pc' ls st σ) : Γ pc ls (.int y :: .int x :: st) σ := by
  obtain ⟨p, e, s, m, args, below, meth, c, ⟨hx, hb, hml, hown, hr, hlk⟩, hts, hK, hSt, hNw, rfl⟩ := h
  obtain ⟨hd, rfl, ht⟩ := hd
  exact fun H locs lsA hP hD hS hl => lv_icmp_le hx hb hd ht (fun q => k1 ((if_pos q).symm.trans hf) H locs lsA hP hD hS hl) (fun q => k2 ((if_neg q).symm.trans hf) H locs lsA hP hD hS hl)
theorem r_if_le (h : IsG Y Z own cc nL d ret ov σ' Γ) {x : Int32} {off : Int} (hd : decode cc pc = .ok (.ifCond .le off, 3) ∧ pc + 3 = pc' ∧ (pc : Int) + off = (tgt : Int)) (hf : (if x ≤ 0 then A else B) = some res) (k1 : A = some res → Γ tgt ls st σ) (k2 : B = some res → Γ pc' ls st σ) : Γ pc ls (.int x :: st) σ := by
  obtain ⟨p, e, s, m, args, below, meth, c, ⟨hx, hb, hml, hown, hr, hlk⟩, hts, hK, hSt, hNw, rfl⟩ := h
  obtain ⟨hd, rfl, ht⟩ := hd
  exact fun H locs lsA hP hD hS hl => lv_if_le hx hb hd ht (fun q => k1 ((if_pos q).symm.trans hf) H locs lsA hP hD hS hl) (fun q => k2 ((if_neg q).symm.trans hf) H locs lsA hP hD hS hl)
theorem r_if_le_T (h : IsG Y Z own cc nL d ret ov σ' Γ) {x : Int32} {off : Int} (hd : decode cc pc = .ok (.ifCond .le off, 3) ∧ pc + 3 = pc' ∧ (pc : Int) + off = (tgt : Int)) (hc : x ≤ 0) (k1 : Γ tgt ls st σ) : Γ pc ls (.int x :: st) σ := by
  obtain ⟨p, e, s, m, args, below, meth, c, ⟨hx, hb, hml, hown, hr, hlk⟩, hts, hK, hSt, hNw, rfl⟩ := h
  obtain ⟨hd, rfl, ht⟩ := hd
  exact fun H locs lsA hP hD hS hl => lv_if_le hx hb hd ht (fun _ => k1 H locs lsA hP hD hS hl) (fun q => absurd hc q)
theorem r_if_le_F (h : IsG Y Z own cc nL d ret ov σ' Γ) {x : Int32} {off : Int} (hd : decode cc pc = .ok (.ifCond .le off, 3) ∧ pc + 3 = pc' ∧ (pc : Int) + off = (tgt : Int)) (hc : ¬ (x ≤ 0)) (k1 : Γ pc' ls st σ) : Γ pc ls (.int x :: st) σ := by
  obtain ⟨p, e, s, m, args, below, meth, c, ⟨hx, hb, hml, hown, hr, hlk⟩, hts, hK, hSt, hNw, rfl⟩ := h
  obtain ⟨hd, rfl, ht⟩ := hd
  exact fun H locs lsA hP hD hS hl => lv_if_le hx hb hd ht (fun q => absurd q hc) (fun _ => k1 H locs lsA hP hD hS hl)
end RU
