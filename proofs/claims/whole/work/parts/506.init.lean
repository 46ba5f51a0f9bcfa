theorem qw_gen {l : Launch} {D : va_G} {cI cJ : ClassId} {a t : Nat → Nat} {fl : List (Option Nat)} {arr : List (Nat × Bool)} {F : Nat → Nat → Int32} {σ : St} (h0 : σ.1 0 = fun _ => 0) (h1 : ∀ i, σ.1 (i + 1) = F (i + 1)) (h2 : ∀ i, σ.2 (i + 1) = fun _ => 0) (hfl : ∀ o ∈ fl, ∀ i, o = some i → i ≤ arr.length) : kW cI cJ 0 fl arr F a arr.length = ((.inl (0, fl) : Sh) :: arr.map Sum.inr).mapIdx (q_e (l, D, a, cI, cJ, t) σ) := by
  apply List.ext_getElem?
  intro i
  rw [List.getElem?_mapIdx]
  unfold kW kA
  rw [List.take_length]
  cases i with
  | zero =>
    simp only [List.getElem?_cons_zero, Option.map_some]
    show _ = some (a 0, (Sum.inr (0, fl.mapIdx (q_v a (σ.1 0))) : va_E))
    have e : kF fl a arr.length = fl.mapIdx (q_v a (σ.1 0)) := by
      apply List.ext_getElem?
      intro j
      unfold kF
      rw [List.getElem?_map, List.getElem?_mapIdx]
      cases hj : fl[j]? with
      | none => rfl
      | some o =>
        cases o with
        | none => simp only [Option.map_some, kV, q_v, h0]
        | some x =>
          have := hfl _ (List.mem_of_getElem? hj) x rfl
          simp only [Option.map_some, kV, q_v, if_pos this]
    rw [e]
  | succ i =>
    rw [List.getElem?_cons_succ, List.getElem?_cons_succ, List.getElem?_mapIdx, List.getElem?_map]
    cases hj : arr[i]? with
    | none => rfl
    | some x =>
      obtain ⟨n, b⟩ := x
      cases b with
      | false => simp only [Option.map_some, kE, q_e, h1]
      | true => simp only [Option.map_some, kE, q_e, h2]
theorem sc_M : sc_YM = (.inl (0, fl_M) : Sh) :: ar_M.map Sum.inr := by decide +kernel
theorem qw_M (l : Launch) (D : va_G) (cI cJ : ClassId) (a t : Nat → Nat) : kW cI cJ 0 fl_M ar_M kFm a 62 = q_ws YM (l, D, a, cI, cJ, t) st0M := by
  have h := qw_gen (l := l) (D := D) (cI := cI) (cJ := cJ) (a := a) (t := t) (fl := fl_M) (arr := ar_M) (F := kFm) (σ := st0M) rfl (fun i => rfl) (fun i => rfl) (by
    intro o ho i e
    subst e
    have z : (fl_M.all fun o => match o with | some i => decide (i ≤ ar_M.length) | none => true) = true := by decide +kernel
    have := List.all_eq_true.mp z _ ho
    simpa using this)
  rw [← sc_M] at h
  exact h
def RelF (n : Nat) (σ τ : St) : Prop := Rel0 n σ τ ∧ cN σ ∧ cW σ ∧ cO σ
theorem rel_up {n : Nat} {σ τ : St} (h : Rel0 n σ τ) (hn : n < 512) : Rel0 (n + 1) σ τ := by
  obtain ⟨hA, hB, hC, hD, hE, ⟨s1, ⟨k, s2, s3⟩, s4, s5⟩, hF, hG, hH, hI, hJ, hK, hL, hM⟩ := h
  exact ⟨hA, hB, hC, hD, hE, ⟨s1, ⟨k, by omega, s3⟩, by omega, s5⟩, hF, hG, hH, hI, hJ, hK, hL, hM⟩
theorem relF_s {n m : Nat} {σ τ σ' τ' : St} (h : RelF n σ τ) (h' : Rel0 m σ' τ') (s : Sx σ σ') : RelF m σ' τ' := ⟨h', cN_s h.1 h.2.1 s.1, cW_s h.2.2.1 s.2.1, cO_s h.1 h.2.2.2 s.2.2⟩
theorem relF_up {n : Nat} {σ τ : St} (h : RelF n σ τ) (hn : n < 512) : RelF (n + 1) σ τ := ⟨rel_up h.1 hn, h.2⟩
theorem ir_0 {l u : Int} (h1 : l ≤ 0) (h2 : 0 ≤ u) : ir (fun _ => 0) l u := fun _ => ⟨by rw [n_0]; exact h1, by rw [n_0]; exact h2⟩
theorem cn_0 (m : Nat) : cn 0 m := ⟨0, Nat.zero_le _, rfl⟩
theorem no_0 {P : Nat → Prop} : ∀ i : Nat, (i : Int) < (0 : Int32).toInt → P i := fun i hi => by rw [n_0] at hi; omega
theorem rt_0 : rT (fun _ => 0) (fun _ => 0) (fun _ => 0) (fun _ => 0) := fun i => (show (0 : Int32) = encS 0 0 ∧ (0 : Int32) = encV 0 0 ∧ 0 ≤ (0 : Int32).toInt ∧ (0 : Int32).toInt ≤ 6 ∧ 0 ≤ (0 : Int32).toInt ∧ (0 : Int32).toInt ≤ 9999 ∧ (4 ≤ (0 : Int32).toInt → (0 : Int32).toInt ≤ 7) by decide)
set_option maxHeartbeats 4000000 in
theorem rel_init : RelF 0 st0C st0M := by
  refine ⟨⟨?_, ?_, ?_, ?_, ?_, ?_, ?_, ?_, ?_, ?_, ?_, ?_, ?_, ?_⟩, Or.inl rfl, Or.inl rfl, Or.inl rfl⟩
  · exact ⟨⟨rfl, rfl, rfl, rfl, rfl, rfl, rfl⟩, ⟨cn_0 _, cn_0 _, cn_0 _⟩, ir_0 (by decide) (by decide), ir_0 (by decide) (by decide), ir_0 (by decide) (by decide), ir_0 (by decide) (by decide)⟩
  · exact ⟨⟨rfl, rfl, rfl, rfl, rfl⟩, cn_0 _, ir_0 (by decide) (by decide), ir_0 (by decide) (by decide), ir_0 (by decide) (by decide), ir_0 (by decide) (by decide), fun _ => Int.le_refl _, no_0, fun i j hi => no_0 (P := fun i => (j : Int) < _ → i ≠ j → _) i hi, no_0⟩
  · exact ⟨⟨rfl, rfl, rfl, rfl, rfl⟩, cn_0 _⟩
  · exact ⟨⟨rfl, rfl, rfl, rfl, rfl⟩, cn_0 _, ir_0 (by decide) (by decide), ir_0 (by decide) (by decide), ir_0 (by decide) (by decide), fun _ => Int.le_refl _⟩
  · exact ⟨⟨rfl, rfl, rfl, rfl⟩, cn_0 _, ir_0 (by decide) (by decide), ir_0 (by decide) (by decide), ir_0 (by decide) (by decide), no_0⟩
  · exact ⟨⟨rfl, rfl, rfl, rfl⟩, ⟨0, Nat.le_refl _, rfl⟩, by decide, ir_0 (by decide) (by decide)⟩
  · exact ⟨⟨rfl, rfl, rfl, rfl, rfl, rfl, rfl⟩, cn_0 _, ir_0 (by decide) (by decide), ir_0 (by decide) (by decide), ir_0 (by decide) (by decide), ir_0 (by decide) (by decide), ir_0 (by decide) (by decide), ir_0 (by decide) (by decide), no_0, fun i j hij hj => no_0 (P := fun j => _ → _) j hj⟩
  · exact ⟨⟨rfl, rfl, rfl, rfl, rfl⟩, cn_0 _, ir_0 (by decide) (by decide), ir_0 (by decide) (by decide), ir_0 (by decide) (by decide), ir_0 (by decide) (by decide), rt_0, ⟨rfl, cn_0 _⟩, rt_0⟩
  · exact ⟨⟨rfl, rfl, rfl, rfl, rfl, rfl, rfl, rfl⟩, cn_0 _, ir_0 (by decide) (by decide), ir_0 (by decide) (by decide), ir_0 (by decide) (by decide), ir_0 (by decide) (by decide), ir_0 (by decide) (by decide), fun _ => ⟨Int.le_refl _, Int.le_refl _⟩, no_0⟩
  · refine ⟨⟨rfl, rfl, rfl⟩, ir_0 (by decide) (by decide), ir_0 (by decide) (by decide), fun i => ?_⟩
    show 0 ≤ (kr i).toInt ∧ (kr i).toInt ≤ 2
    unfold kr
    split <;> decide
  · exact ⟨⟨rfl, rfl, rfl⟩, cn_0 _, ir_0 (by decide) (by decide)⟩
  · exact ⟨⟨rfl, rfl, rfl, rfl, rfl, rfl⟩, cn_0 _, ir_0 (by decide) (by decide), ir_0 (by decide) (by decide), ir_0 (by decide) (by decide), ir_0 (by decide) (by decide), ir_0 (by decide) (by decide), no_0⟩
  · refine ⟨rfl, rfl, fun k hk => ⟨⟨by show 0 ≤ (0 : Int32).toInt; decide, by show (0 : Int32).toInt ≤ 2; decide⟩, Or.inl ⟨?_, ?_⟩⟩⟩
    · show ks k = -9
      unfold ks
      rw [if_pos hk]
    · show km2 k = -1
      unfold km2
      rw [if_pos hk]
  · exact ⟨rfl, rfl⟩
