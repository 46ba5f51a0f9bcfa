/-! two -/
def act (wa fr to : Nat → Int32) (x1 : Int32) (d : Int) (i : Nat) : Prop := wa i = x1 ∧ (fr i).toInt ≤ d ∧ d ≤ (to i).toInt
def tw (c : Nat) (wo wa fr to : Nat → Int32) (x1 : Int32) (d : Int) : Prop := ∃ i j : Nat, i < c ∧ j < c ∧ act wa fr to x1 d i ∧ act wa fr to x1 d j ∧ wo i ≠ wo j
noncomputable def twI (c : Nat) (wo wa fr to : Nat → Int32) (x1 : Int32) (d : Nat) : Int := @ite Int (tw c wo wa fr to x1 d) (Classical.propDecidable _) 1 0
noncomputable def cd (c : Nat) (wo wa fr to : Nat → Int32) (x1 : Int32) (d : Nat) : Int := sI (twI c wo wa fr to x1) d
theorem twI_y {c : Nat} {wo wa fr to : Nat → Int32} {x1 : Int32} {d : Nat} (h : tw c wo wa fr to x1 d) : twI c wo wa fr to x1 d = 1 := by unfold twI; rw [if_pos h]
theorem twI_n {c : Nat} {wo wa fr to : Nat → Int32} {x1 : Int32} {d : Nat} (h : ¬ tw c wo wa fr to x1 d) : twI c wo wa fr to x1 d = 0 := by unfold twI; rw [if_neg h]
theorem cd_b (c : Nat) (wo wa fr to : Nat → Int32) (x1 : Int32) (d : Nat) : 0 ≤ cd c wo wa fr to x1 d ∧ cd c wo wa fr to x1 d ≤ d := by
  have := sI_nn (f := twI c wo wa fr to x1) (u := 1) (fun q => by
    by_cases h : tw c wo wa fr to x1 q
    · rw [twI_y h]; omega
    · rw [twI_n h]; omega) d
  unfold cd
  omega
theorem cd_c {c : Nat} {wo wa fr to : Nat → Int32} {x1 : Int32} {d : Nat} {v : Int} : ∀ k, (∀ e, d ≤ e → e < d + k → twI c wo wa fr to x1 e = v) → cd c wo wa fr to x1 (d + k) = cd c wo wa fr to x1 d + v * k := by
  intro k
  induction k with
  | zero => intro _; simp
  | succ k ih =>
    intro h
    have a := ih (fun e e1 e2 => h e e1 (by omega))
    have b := h (d + k) (by omega) (by omega)
    show sI (twI c wo wa fr to x1) (d + k) + twI c wo wa fr to x1 (d + k) = _
    unfold cd at a
    unfold cd
    rw [a, b]
    have e : v * ((k + 1 : Nat) : Int) = v * (k : Int) + v := by push_cast; rw [Int.mul_add, Int.mul_one]
    rw [e]; omega
theorem orb : ∀ B : Fin 64, ∀ b : Fin 6, (nI B.val ||| ((1 : Int32) <<< (nI b.val &&& 31))) = nI (B.val ||| 2 ^ b.val) ∧ (B.val ||| 2 ^ b.val) < 64 := by decide
def st00 : St := (fun _ _ => 0, fun _ _ => 0)
theorem bcn : ∀ B : Fin 64, decide ((JI_bitCount (nI B.val) st00).getD 0 < 2) = !decide (∃ i j : Fin 6, i ≠ j ∧ hb (nI B.val) i.val = true ∧ hb (nI B.val) j.val = true) := by decide
theorem bcn' {B : Nat} (hB : B < 64) (σ : St) : ∃ v : Int32, JI_bitCount (nI B) σ = some v ∧ (v < 2 ↔ ¬ ∃ i j : Nat, i < 6 ∧ j < 6 ∧ i ≠ j ∧ hb (nI B) i = true ∧ hb (nI B) j = true) := by
  obtain ⟨v, hv⟩ : ∃ v, JI_bitCount (nI B) st00 = some v := ⟨_, rfl⟩
  refine ⟨v, hv, ?_⟩
  have h := bcn ⟨B, hB⟩
  simp only [hv, Option.getD_some] at h
  constructor
  · intro z
    rw [decide_eq_true z] at h
    rintro ⟨i, j, hi, hj, a, b, c⟩
    have : decide (∃ i j : Fin 6, i ≠ j ∧ hb (nI B) i.val = true ∧ hb (nI B) j.val = true) = true := decide_eq_true ⟨⟨i, hi⟩, ⟨j, hj⟩, fun e => a (by injection e), b, c⟩
    rw [this] at h
    cases h
  · intro z
    apply Classical.byContradiction
    intro w
    rw [decide_eq_false w] at h
    have : decide (∃ i j : Fin 6, i ≠ j ∧ hb (nI B) i.val = true ∧ hb (nI B) j.val = true) = true := by
      cases q : decide (∃ i j : Fin 6, i ≠ j ∧ hb (nI B) i.val = true ∧ hb (nI B) j.val = true)
      · rw [q] at h; cases h
      · rfl
    obtain ⟨i, j, a, b, c⟩ := of_decide_eq_true this
    exact z ⟨i.val, j.val, i.isLt, j.isLt, fun e => a (Fin.ext e), b, c⟩
theorem hbB : ∀ B : Fin 64, ∀ b : Fin 6, ∀ i : Fin 6, hb (nI (B.val ||| 2 ^ b.val)) i.val = (hb (nI B.val) i.val || decide (i.val = b.val)) := by decide
theorem c_whos {σ : St} {c : Nat} (hc : c ≤ 20) (ec : σ.1 16 4 = nI c) (io : ir (σ.1 17) 0 5) (x1 d : Int32) : ∃ B : Nat, B < 64 ∧ Spans_whosOn_rights x1 d σ = some (nI B) ∧ ∀ b, b < 6 → (hb (nI B) b = true ↔ ∃ i, i < c ∧ act (σ.1 18) (σ.1 19) (σ.1 20) x1 d.toInt i ∧ σ.1 17 i = nI b) := by
  obtain ⟨r, e, B, hB, eB, hr⟩ := lp_ex (F := fun n i a => Spans_whosOn_rights_L5 x1 d σ n a i) (c := c) (K := fun a => some a) (fun k a => ∃ B : Nat, B < 64 ∧ a = nI B ∧ ∀ b, b < 6 → (hb (nI B) b = true ↔ ∃ i, i < k ∧ act (σ.1 18) (σ.1 19) (σ.1 20) x1 d.toInt i ∧ σ.1 17 i = nI b))
    (fun n a _ => by simp only [Spans_whosOn_rights_L5, ec, n_cmpE, if_true])
    (fun n k a hk hI => by
      obtain ⟨B, hB, rfl, hr⟩ := hI
      have q1 : ¬ nI c ≤ nI k := n_cmp hk (by omega)
      have i1 : inb (nI k) 20 := n_inb (by omega) (by decide)
      have i2 := n_tn (k := k) (by omega)
      have skip : ¬ act (σ.1 18) (σ.1 19) (σ.1 20) x1 d.toInt k → ∃ B' : Nat, B' < 64 ∧ nI B = nI B' ∧ ∀ b, b < 6 → (hb (nI B') b = true ↔ ∃ i, i < k + 1 ∧ act (σ.1 18) (σ.1 19) (σ.1 20) x1 d.toInt i ∧ σ.1 17 i = nI b) := by
        intro hn
        refine ⟨B, hB, rfl, fun b hb6 => ?_⟩
        rw [hr b hb6]
        constructor
        · rintro ⟨i, a1, a2, a3⟩; exact ⟨i, by omega, a2, a3⟩
        · rintro ⟨i, a1, a2, a3⟩
          by_cases e : i = k
          · subst e; exact absurd a2 hn
          · exact ⟨i, by omega, a2, a3⟩
      rw [Spans_whosOn_rights_L5]
      simp only [ec, if_neg q1, if_pos i1, i2, nI_1, s_cov_rights (show k < 20 by omega), Option.bind_some]
      by_cases c1 : σ.1 18 k = x1
      · rw [if_pos c1]
        cases c2 : bl d (σ.1 19 k) (σ.1 20 k)
        · refine ⟨_, rfl, skip (fun z => ?_)⟩
          have : bl d (σ.1 19 k) (σ.1 20 k) = true := by
            unfold bl
            rw [decide_eq_true_eq, n_le, n_le]
            exact z.2
          rw [c2] at this; cases this
        · have ak : act (σ.1 18) (σ.1 19) (σ.1 20) x1 d.toInt k := by
            unfold bl at c2
            rw [decide_eq_true_eq, n_le, n_le] at c2
            exact ⟨c1, c2⟩
          rw [if_pos rfl]
          obtain ⟨b, hb5, eb⟩ := nI_of' (u := 5) (io k).1 (io k).2 (by decide)
          have o1 := orb ⟨B, hB⟩ ⟨b, by omega⟩
          simp only at o1
          refine ⟨_, rfl, B ||| 2 ^ b, o1.2, by rw [eb]; exact o1.1, fun b' hb' => ?_⟩
          have o2 := hbB ⟨B, hB⟩ ⟨b, by omega⟩ ⟨b', hb'⟩
          simp only at o2
          rw [o2]
          simp only [Bool.or_eq_true, decide_eq_true_eq]
          rw [hr b' hb']
          constructor
          · rintro (⟨i, a1, a2, a3⟩ | e)
            · exact ⟨i, by omega, a2, a3⟩
            · subst e; exact ⟨k, by omega, ak, eb⟩
          · rintro ⟨i, a1, a2, a3⟩
            by_cases e : i = k
            · subst e; right
              rw [eb, nI_inj (by omega) (by omega)] at a3; exact a3.symm
            · exact Or.inl ⟨i, by omega, a2, a3⟩
      · rw [if_neg c1]
        exact ⟨_, rfl, skip (fun z => c1 z.1)⟩)
    FU 0 0 (Nat.zero_le _) (fu_gt (by omega)) ⟨0, by omega, rfl, fun b _ => by
      rw [show nI 0 = 0 by decide, hb_0]; simp⟩
  subst eB
  exact ⟨B, hB, e, hr⟩
theorem c_tw {σ : St} {c : Nat} (hc : c ≤ 20) (ec : σ.1 16 4 = nI c) (io : ir (σ.1 17) 0 5) (x1 d : Int32) : ∃ r v : Int32, Spans_whosOn_rights x1 d σ = some r ∧ JI_bitCount r σ = some v ∧ (v < 2 ↔ ¬ tw c (σ.1 17) (σ.1 18) (σ.1 19) (σ.1 20) x1 d.toInt) := by
  obtain ⟨B, hB, e, hr⟩ := c_whos hc ec io x1 d
  obtain ⟨v, v1, v2⟩ := bcn' hB σ
  refine ⟨_, v, e, v1, ?_⟩
  rw [v2]
  constructor
  · rintro z ⟨i, j, hi, hj, ai, aj, ne⟩
    obtain ⟨b, hb5, eb⟩ := nI_of' (u := 5) (io i).1 (io i).2 (by decide)
    obtain ⟨b', hb5', eb'⟩ := nI_of' (u := 5) (io j).1 (io j).2 (by decide)
    exact z ⟨b, b', by omega, by omega, fun w => ne (by rw [eb, eb', w]), (hr b (by omega)).mpr ⟨i, hi, ai, eb⟩, (hr b' (by omega)).mpr ⟨j, hj, aj, eb'⟩⟩
  · rintro z ⟨b, b', hb6, hb6', ne, h1, h2⟩
    obtain ⟨i, i1, i2, i3⟩ := (hr b hb6).mp h1
    obtain ⟨j, j1, j2, j3⟩ := (hr b' hb6').mp h2
    exact z ⟨i, j, i1, j1, i2, j2, fun w => ne (by rw [i3, j3, nI_inj (by omega) (by omega)] at w; exact w)⟩
/-- the next day on which a right begins or has ended -/
def trn (c : Nat) (wa fr to : Nat → Int32) (x1 : Int32) (d r : Int) : Prop := d < r ∧ r ≤ 10000 ∧ (∀ i : Nat, i < c → wa i = x1 → ((fr i).toInt ≤ d ∨ r ≤ (fr i).toInt) ∧ ((to i).toInt < d ∨ r ≤ (to i).toInt + 1)) ∧ (r = 10000 ∨ ∃ i : Nat, i < c ∧ wa i = x1 ∧ (r = (fr i).toInt ∨ r = (to i).toInt + 1))
theorem c_next {σ : St} {c : Nat} (hc : c ≤ 20) (ec : σ.1 16 4 = nI c) (if1 : ir (σ.1 19) 0 9999) (it : ir (σ.1 20) 0 9999) (x1 d : Int32) (hd : d.toInt < 10000) : ∃ r : Int32, Spans_nextTurn_rights x1 d σ = some r ∧ trn c (σ.1 18) (σ.1 19) (σ.1 20) x1 d.toInt r.toInt := by
  obtain ⟨r, e, hr⟩ := lp_ex (F := fun n i a => Spans_nextTurn_rights_L7 x1 d σ n a i) (c := c) (K := fun a => some a) (fun k a => trn k (σ.1 18) (σ.1 19) (σ.1 20) x1 d.toInt a.toInt)
    (fun n a _ => by simp only [Spans_nextTurn_rights_L7, ec, n_cmpE, if_true])
    (fun n k a hk hI => by
      have q1 : ¬ nI c ≤ nI k := n_cmp hk (by omega)
      have i1 : inb (nI k) 20 := n_inb (by omega) (by decide)
      have i2 := n_tn (k := k) (by omega)
      have fk := if1 k
      have tk := it k
      have ts : (σ.1 20 k + 1).toInt = (σ.1 20 k).toInt + 1 := n_suc (by omega)
      obtain ⟨h1, h2, h3, h4⟩ := hI
      have same : (σ.1 18 k = x1 → ((σ.1 19 k).toInt ≤ d.toInt ∨ a.toInt ≤ (σ.1 19 k).toInt) ∧ ((σ.1 20 k).toInt < d.toInt ∨ a.toInt ≤ (σ.1 20 k).toInt + 1)) → trn (k + 1) (σ.1 18) (σ.1 19) (σ.1 20) x1 d.toInt a.toInt := by
        intro w
        refine ⟨h1, h2, fun i hi e => ?_, ?_⟩
        · by_cases z : i = k
          · subst z; exact w e
          · exact h3 i (by omega) e
        · rcases h4 with h4 | ⟨i, h5, h6⟩
          · exact Or.inl h4
          · exact Or.inr ⟨i, by omega, h6⟩
      have new : ∀ b : Int32, d.toInt < b.toInt → b.toInt ≤ a.toInt → σ.1 18 k = x1 → (b.toInt = (σ.1 19 k).toInt ∨ b.toInt = (σ.1 20 k).toInt + 1) → (((σ.1 19 k).toInt ≤ d.toInt ∨ b.toInt ≤ (σ.1 19 k).toInt) ∧ ((σ.1 20 k).toInt < d.toInt ∨ b.toInt ≤ (σ.1 20 k).toInt + 1)) → trn (k + 1) (σ.1 18) (σ.1 19) (σ.1 20) x1 d.toInt b.toInt := by
        intro b b1 b2 b3 b4 b5
        refine ⟨b1, by omega, fun i hi e => ?_, Or.inr ⟨k, by omega, b3, b4⟩⟩
        by_cases z : i = k
        · subst z; exact b5
        · have := h3 i (by omega) e
          omega
      rw [Spans_nextTurn_rights_L7]
      simp only [ec, if_neg q1, if_pos i1, i2, nI_1]
      by_cases c1 : σ.1 18 k = x1
      · rw [if_pos c1]
        by_cases c2 : σ.1 19 k ≤ d
        · rw [if_pos c2]
          rw [n_le] at c2
          by_cases c3 : σ.1 20 k < d
          · rw [if_pos c3]
            rw [n_lt] at c3
            exact ⟨a, rfl, same (fun _ => by omega)⟩
          · rw [if_neg c3]
            rw [n_lt] at c3
            by_cases c4 : a ≤ σ.1 20 k + 1
            · rw [if_pos c4]
              rw [n_le, ts] at c4
              exact ⟨a, rfl, same (fun _ => by omega)⟩
            · rw [if_neg c4]
              rw [n_le, ts] at c4
              exact ⟨_, rfl, new _ (by rw [ts]; omega) (by rw [ts]; omega) c1 (by rw [ts]; omega) (by rw [ts]; omega)⟩
        · rw [if_neg c2]
          rw [n_le] at c2
          by_cases c5 : a ≤ σ.1 19 k
          · rw [if_pos c5]
            rw [n_le] at c5
            by_cases c3 : σ.1 20 k < d
            · rw [if_pos c3]
              rw [n_lt] at c3
              exact ⟨a, rfl, same (fun _ => by omega)⟩
            · rw [if_neg c3]
              rw [n_lt] at c3
              by_cases c4 : a ≤ σ.1 20 k + 1
              · rw [if_pos c4]
                rw [n_le, ts] at c4
                exact ⟨a, rfl, same (fun _ => by omega)⟩
              · rw [if_neg c4]
                rw [n_le, ts] at c4
                exact ⟨_, rfl, new _ (by rw [ts]; omega) (by rw [ts]; omega) c1 (by rw [ts]; omega) (by rw [ts]; omega)⟩
          · rw [if_neg c5]
            rw [n_le] at c5
            by_cases c3 : σ.1 20 k < d
            · rw [if_pos c3]
              rw [n_lt] at c3
              exact ⟨_, rfl, new _ (by omega) (by omega) c1 (by omega) (by omega)⟩
            · rw [if_neg c3]
              rw [n_lt] at c3
              by_cases c4 : σ.1 19 k ≤ σ.1 20 k + 1
              · rw [if_pos c4]
                rw [n_le, ts] at c4
                exact ⟨_, rfl, new _ (by omega) (by omega) c1 (by omega) (by omega)⟩
              · rw [if_neg c4]
                rw [n_le, ts] at c4
                exact ⟨_, rfl, new _ (by rw [ts]; omega) (by rw [ts]; omega) c1 (by rw [ts]; omega) (by rw [ts]; omega)⟩
      · rw [if_neg c1]
        exact ⟨a, rfl, same (fun z => absurd z c1)⟩)
    FU 0 10000 (Nat.zero_le _) (fu_gt (by omega)) (by
      rw [n_10000]
      exact ⟨hd, Int.le_refl _, fun i hi => by omega, Or.inl rfl⟩)
  exact ⟨r, e, hr⟩
def ctf (wa fr to : Nat → Int32) (x1 : Int32) (d : Int) (i : Nat) : Int := (if wa i = x1 ∧ d < (fr i).toInt then 1 else 0) + (if wa i = x1 ∧ d ≤ (to i).toInt then 1 else 0)
theorem sI_mono {f g : Nat → Int} (h : ∀ q, f q ≤ g q) : ∀ k, sI f k ≤ sI g k := by
  intro k
  induction k with
  | zero => exact Int.le_refl _
  | succ k ih => simp only [sI]; have := h k; omega
theorem sI_lt {f g : Nat → Int} (h : ∀ q, f q ≤ g q) {i : Nat} (hi : f i < g i) : ∀ k, i < k → sI f k < sI g k := by
  intro k
  induction k with
  | zero => intro h; omega
  | succ k ih =>
    intro hk
    simp only [sI]
    by_cases e : i = k
    · subst e
      have := sI_mono h i
      omega
    · have := ih (by omega)
      have := h k
      omega
theorem ctf_b (wa fr to : Nat → Int32) (x1 : Int32) (d : Int) (i : Nat) : 0 ≤ ctf wa fr to x1 d i ∧ ctf wa fr to x1 d i ≤ 2 := by
  unfold ctf
  split <;> split <;> omega
theorem ctf_m (wa fr to : Nat → Int32) (x1 : Int32) {d r : Int} (h : d ≤ r) (i : Nat) : ctf wa fr to x1 r i ≤ ctf wa fr to x1 d i := by
  have a1 : (if wa i = x1 ∧ r < (fr i).toInt then (1 : Int) else 0) ≤ (if wa i = x1 ∧ d < (fr i).toInt then 1 else 0) := by
    by_cases z : wa i = x1 ∧ r < (fr i).toInt
    · rw [if_pos z, if_pos ⟨z.1, by omega⟩]; omega
    · rw [if_neg z]; split <;> omega
  have a2 : (if wa i = x1 ∧ r ≤ (to i).toInt then (1 : Int) else 0) ≤ (if wa i = x1 ∧ d ≤ (to i).toInt then 1 else 0) := by
    by_cases z : wa i = x1 ∧ r ≤ (to i).toInt
    · rw [if_pos z, if_pos ⟨z.1, by omega⟩]; omega
    · rw [if_neg z]; split <;> omega
  unfold ctf
  omega
theorem ctf_l {wa fr to : Nat → Int32} {x1 : Int32} {d r : Int} (h : d < r) {i : Nat} (e : wa i = x1) (hi : r = (fr i).toInt ∨ r = (to i).toInt + 1) : ctf wa fr to x1 r i < ctf wa fr to x1 d i := by
  have a1 : (if wa i = x1 ∧ r < (fr i).toInt then (1 : Int) else 0) ≤ (if wa i = x1 ∧ d < (fr i).toInt then 1 else 0) := by
    by_cases z : wa i = x1 ∧ r < (fr i).toInt
    · rw [if_pos z, if_pos ⟨z.1, by omega⟩]; omega
    · rw [if_neg z]; split <;> omega
  have a2 : (if wa i = x1 ∧ r ≤ (to i).toInt then (1 : Int) else 0) ≤ (if wa i = x1 ∧ d ≤ (to i).toInt then 1 else 0) := by
    by_cases z : wa i = x1 ∧ r ≤ (to i).toInt
    · rw [if_pos z, if_pos ⟨z.1, by omega⟩]; omega
    · rw [if_neg z]; split <;> omega
  unfold ctf
  rcases hi with hi | hi
  · have b1 : (if wa i = x1 ∧ r < (fr i).toInt then (1 : Int) else 0) = 0 := by rw [if_neg (by omega)]
    have b2 : (if wa i = x1 ∧ d < (fr i).toInt then (1 : Int) else 0) = 1 := by rw [if_pos ⟨e, by omega⟩]
    omega
  · have b1 : (if wa i = x1 ∧ r ≤ (to i).toInt then (1 : Int) else 0) = 0 := by rw [if_neg (by omega)]
    have b2 : (if wa i = x1 ∧ d ≤ (to i).toInt then (1 : Int) else 0) = 1 := by rw [if_pos ⟨e, by omega⟩]
    omega
theorem c_two {σ : St} {c : Nat} (hc : c ≤ 20) (ec : σ.1 16 4 = nI c) (io : ir (σ.1 17) 0 5) (if1 : ir (σ.1 19) 0 9999) (it : ir (σ.1 20) 0 9999) (x1 : Int32) : ∀ (m d t : Nat) (x2 : Int32), d ≤ 10000 → 10000 - d < m → x2.toInt = cd c (σ.1 17) (σ.1 18) (σ.1 19) (σ.1 20) x1 d → (t : Int) ≤ 2 * c + 1 → (d < 10000 → (t : Int) + sI (ctf (σ.1 18) (σ.1 19) (σ.1 20) x1 d) c ≤ 2 * c) → ∃ r : Int32, r.toInt = cd c (σ.1 17) (σ.1 18) (σ.1 19) (σ.1 20) x1 10000 ∧ Spans_daysOfTwo_rights_L7 x1 σ m x2 (nI d) (nI t) = some r := by
  intro m
  induction m with
  | zero => intro d t x2 _ h; omega
  | succ m ih =>
    intro d t x2 hd hm h2 ht hz
    have e2c : (2 : Int32) * nI c = nI (2 * c) := by
      have e2 : (2 : Int32).toInt = 2 := by decide
      rw [n_eq, n_mul, n_ti (by omega), e2, n_ti (by omega)]
      · omega
      · rw [n_ti (by omega), e2]; omega
      · rw [n_ti (by omega), e2]; omega
    by_cases q : d < 10000
    · have hz := hz q
      have nn := sI_nn (f := ctf (σ.1 18) (σ.1 19) (σ.1 20) x1 d) (u := 2) (ctf_b (σ.1 18) (σ.1 19) (σ.1 20) x1 d) c
      have q1 : ¬ nI (2 * c) < nI t := by rw [n_lt, n_ti (by omega), n_ti (by omega)]; omega
      have q2 : ¬ (10000 : Int32) ≤ nI d := by rw [n_le, n_10000, n_ti (by omega)]; omega
      have dt := n_ti (k := d) (by omega)
      obtain ⟨r, r1, r2⟩ := c_next hc ec if1 it x1 (nI d) (by rw [dt]; omega)
      obtain ⟨w, v, w1, w2, w3⟩ := c_tw hc ec io x1 (nI d)
      rw [dt] at r2 w3
      obtain ⟨t1, t2, t3, t4⟩ := r2
      obtain ⟨e, he, re⟩ := nI_of' (u := 10000) (x := r) (by omega) t2 (by decide)
      have et : r.toInt = e := by rw [re, n_ti (by omega)]
      rw [et] at t1 t2 t3 t4
      have cons : ∀ z : Nat, d ≤ z → z < e → (tw c (σ.1 17) (σ.1 18) (σ.1 19) (σ.1 20) x1 z ↔ tw c (σ.1 17) (σ.1 18) (σ.1 19) (σ.1 20) x1 d) := by
        intro z z1 z2
        have ac : ∀ i, i < c → (act (σ.1 18) (σ.1 19) (σ.1 20) x1 z i ↔ act (σ.1 18) (σ.1 19) (σ.1 20) x1 d i) := by
          intro i hi
          unfold act
          constructor
          · rintro ⟨a1, a2, a3⟩
            have := t3 i hi a1
            exact ⟨a1, by omega, by omega⟩
          · rintro ⟨a1, a2, a3⟩
            have := t3 i hi a1
            exact ⟨a1, by omega, by omega⟩
        constructor
        · rintro ⟨i, j, a1, a2, a3, a4, a5⟩
          exact ⟨i, j, a1, a2, (ac i a1).mp a3, (ac j a2).mp a4, a5⟩
        · rintro ⟨i, j, a1, a2, a3, a4, a5⟩
          exact ⟨i, j, a1, a2, (ac i a1).mpr a3, (ac j a2).mpr a4, a5⟩
      have cb := cd_b c (σ.1 17) (σ.1 18) (σ.1 19) (σ.1 20) x1 d
      have cnt : e < 10000 → ((t + 1 : Nat) : Int) + sI (ctf (σ.1 18) (σ.1 19) (σ.1 20) x1 e) c ≤ 2 * c := by
        intro he'
        rcases t4 with t4 | ⟨i, i1, i2, i3⟩
        · omega
        · have := sI_lt (f := ctf (σ.1 18) (σ.1 19) (σ.1 20) x1 e) (g := ctf (σ.1 18) (σ.1 19) (σ.1 20) x1 d) (fun q => ctf_m (σ.1 18) (σ.1 19) (σ.1 20) x1 (by omega) q) (i := i) (ctf_l t1 i2 i3) c i1
          omega
      by_cases qt : tw c (σ.1 17) (σ.1 18) (σ.1 19) (σ.1 20) x1 d
      · have st : Spans_daysOfTwo_rights_L7 x1 σ (m + 1) x2 (nI d) (nI t) = Spans_daysOfTwo_rights_L7 x1 σ m (x2 + (nI e - nI d)) (nI e) (nI (t + 1)) := by
          rw [Spans_daysOfTwo_rights_L7, ec, e2c, if_neg q1, if_neg q2, r1, Option.bind_some, w1, Option.bind_some, w2, Option.bind_some, if_neg (fun z => w3.mp z qt), re, nI_1]
        rw [st]
        have df : (nI e - nI d).toInt = (e : Int) - d := by rw [n_sub, n_ti (by omega), dt] <;> rw [n_ti (by omega), dt] <;> omega
        have key := cd_c (c := c) (wo := σ.1 17) (wa := σ.1 18) (fr := σ.1 19) (to := σ.1 20) (x1 := x1) (d := d) (v := 1) (e - d) (fun z z1 z2 => twI_y ((cons z z1 (by omega)).mpr qt))
        rw [show d + (e - d) = e by omega] at key
        refine ih e (t + 1) _ he (by clear t4 cnt; omega) ?_ (by clear t4 cnt; omega) cnt
        rw [n_add (by rw [df]; omega) (by rw [df]; omega), df, h2, key]; omega
      · have st : Spans_daysOfTwo_rights_L7 x1 σ (m + 1) x2 (nI d) (nI t) = Spans_daysOfTwo_rights_L7 x1 σ m x2 (nI e) (nI (t + 1)) := by
          rw [Spans_daysOfTwo_rights_L7, ec, e2c, if_neg q1, if_neg q2, r1, Option.bind_some, w1, Option.bind_some, w2, Option.bind_some, if_pos (w3.mpr qt), re, nI_1]
        rw [st]
        have key := cd_c (c := c) (wo := σ.1 17) (wa := σ.1 18) (fr := σ.1 19) (to := σ.1 20) (x1 := x1) (d := d) (v := 0) (e - d) (fun z z1 z2 => twI_n (fun y => qt ((cons z z1 (by omega)).mp y)))
        rw [show d + (e - d) = e by omega] at key
        refine ih e (t + 1) _ he (by clear t4 cnt; omega) ?_ (by clear t4 cnt; omega) cnt
        rw [h2, key]; omega
    · have e : d = 10000 := by omega
      subst e
      refine ⟨x2, h2, ?_⟩
      rw [Spans_daysOfTwo_rights_L7]
      have q2 : (10000 : Int32) ≤ nI 10000 := by decide
      rw [if_pos q2]
      split <;> rfl
theorem m_twoD {τ : St} {c : Nat} (hc : c ≤ 20) (ec : τ.1 0 63 = nI c) (io : ir (τ.1 50) 0 5) (x1 x2 d : Int32) (k : Int32 → Int32 → Option Int32) : ∃ b : Bool, (b = true ↔ tw c (τ.1 50) (τ.1 51) (τ.1 52) (τ.1 53) x1 d.toInt) ∧ M_two_L31 x1 x2 d τ k FU (-9) 0 0 = k (x2 + bi b) (d + 1) := by
  obtain ⟨a, e, b, eb, hb1, hb0⟩ := lp_ex (F := fun n i (a : Int32 × Int32) => M_two_L31 x1 x2 d τ k n a.1 a.2 i) (c := c) (K := fun a => M_two_L31 x1 x2 d τ k 1 a.1 a.2 (nI c)) (fun m a => ∃ b : Bool, a.2 = bi b ∧ (b = true → tw m (τ.1 50) (τ.1 51) (τ.1 52) (τ.1 53) x1 d.toInt) ∧ (b = false → (a.1 = -9 ∧ ∀ j, j < m → ¬ act (τ.1 51) (τ.1 52) (τ.1 53) x1 d.toInt j) ∨ ∃ j, j < m ∧ act (τ.1 51) (τ.1 52) (τ.1 53) x1 d.toInt j ∧ a.1 = τ.1 50 j ∧ ∀ j', j' < m → act (τ.1 51) (τ.1 52) (τ.1 53) x1 d.toInt j' → τ.1 50 j' = a.1))
    (fun n a _ => by simp only [M_two_L31, ec, n_cmpE, if_true])
    (fun n m a hm hI => by
      obtain ⟨b, eb, hb1, hb0⟩ := hI
      have q1 : ¬ nI c ≤ nI m := n_cmp hm (by omega)
      have i1 : inb (nI m) 20 := n_inb (by omega) (by decide)
      have i2 := n_tn (k := m) (by omega)
      have up : tw m (τ.1 50) (τ.1 51) (τ.1 52) (τ.1 53) x1 d.toInt → tw (m + 1) (τ.1 50) (τ.1 51) (τ.1 52) (τ.1 53) x1 d.toInt := by
        rintro ⟨i, j, a1, a2, a3⟩
        exact ⟨i, j, by omega, by omega, a3⟩
      have skip : ¬ act (τ.1 51) (τ.1 52) (τ.1 53) x1 d.toInt m → ∃ b : Bool, a.2 = bi b ∧ (b = true → tw (m + 1) (τ.1 50) (τ.1 51) (τ.1 52) (τ.1 53) x1 d.toInt) ∧ (b = false → (a.1 = -9 ∧ ∀ j, j < m + 1 → ¬ act (τ.1 51) (τ.1 52) (τ.1 53) x1 d.toInt j) ∨ ∃ j, j < m + 1 ∧ act (τ.1 51) (τ.1 52) (τ.1 53) x1 d.toInt j ∧ a.1 = τ.1 50 j ∧ ∀ j', j' < m + 1 → act (τ.1 51) (τ.1 52) (τ.1 53) x1 d.toInt j' → τ.1 50 j' = a.1) := by
        intro hn
        refine ⟨b, eb, fun z => up (hb1 z), fun z => ?_⟩
        rcases hb0 z with ⟨a1, a2⟩ | ⟨j, a1, a2, a3, a4⟩
        · left
          refine ⟨a1, fun j hj => ?_⟩
          by_cases e : j = m
          · subst e; exact hn
          · exact a2 j (by omega)
        · right
          refine ⟨j, by omega, a2, a3, fun j' hj' w => ?_⟩
          by_cases e : j' = m
          · subst e; exact absurd w hn
          · exact a4 j' (by omega) w
      rw [M_two_L31]
      simp only [ec, if_neg q1, if_pos i1, i2, nI_1, g_inI, Option.bind_some]
      by_cases c1 : τ.1 51 m = x1
      · rw [if_pos c1]
        cases c2 : bl d (τ.1 52 m) (τ.1 53 m)
        · refine ⟨a, rfl, skip (fun z => ?_)⟩
          have : bl d (τ.1 52 m) (τ.1 53 m) = true := by
            unfold bl
            rw [decide_eq_true_eq, n_le, n_le]
            exact z.2
          rw [c2] at this; cases this
        · have am : act (τ.1 51) (τ.1 52) (τ.1 53) x1 d.toInt m := by
            unfold bl at c2
            rw [decide_eq_true_eq, n_le, n_le] at c2
            exact ⟨c1, c2⟩
          rw [if_pos rfl]
          cases b
          · rw [eb, bi_f, if_pos rfl]
            rcases hb0 rfl with ⟨a1, a2⟩ | ⟨j, a1, a2, a3, a4⟩
            · rw [if_pos (by rw [a1]; decide)]
              refine ⟨(τ.1 50 m, 0), rfl, false, rfl, (fun z => nomatch z), fun _ => Or.inr ⟨m, by omega, am, rfl, fun j' hj' w => ?_⟩⟩
              by_cases e : j' = m
              · subst e; rfl
              · exact absurd w (a2 j' (by omega))
            · have n0 : ¬ a.1 < 0 := by rw [a3, n_lt, n_0]; have := io j; omega
              rw [if_neg n0]
              by_cases c3 : a.1 = τ.1 50 m
              · rw [if_pos c3]
                refine ⟨(τ.1 50 m, 0), rfl, false, rfl, (fun z => nomatch z), fun _ => Or.inr ⟨m, by omega, am, rfl, fun j' hj' w => ?_⟩⟩
                by_cases e : j' = m
                · subst e; rfl
                · show τ.1 50 j' = τ.1 50 m
                  rw [a4 j' (by omega) w]; exact c3
              · rw [if_neg c3]
                refine ⟨(τ.1 50 m, 1), rfl, true, rfl, fun _ => ⟨m, j, by omega, by omega, am, a2, fun z => c3 (by rw [a3, z])⟩, (fun z => nomatch z)⟩
          · rw [eb, bi_t, if_neg (by decide)]
            exact ⟨(τ.1 50 m, 1), rfl, true, rfl, fun _ => up (hb1 rfl), (fun z => nomatch z)⟩
      · rw [if_neg c1]
        exact ⟨a, rfl, skip (fun z => c1 z.1)⟩)
    FU 0 (-9, 0) (Nat.zero_le _) (fu_gt (by omega)) ⟨false, rfl, (fun z => nomatch z), fun _ => Or.inl ⟨rfl, fun j hj => by omega⟩⟩
  refine ⟨b, ?_, ?_⟩
  · cases b
    · constructor
      · intro z; cases z
      · rintro ⟨i, j, a1, a2, a3, a4, a5⟩
        rcases hb0 rfl with ⟨_, b2⟩ | ⟨j', b1, b2, b3, b4⟩
        · exact absurd a3 (b2 i a1)
        · exact absurd (by rw [b4 i a1 a3, b4 j a2 a4]) a5
    · exact ⟨fun _ => hb1 rfl, fun _ => rfl⟩
  · have e' : M_two_L31 x1 x2 d τ k FU (-9) 0 0 = M_two_L31 x1 x2 d τ k 1 a.1 a.2 (nI c) := e
    rw [e', M_two_L31, ec, if_pos (n_cmpE c), eb]
    cases b
    · rfl
    · rfl
theorem m_two {τ : St} {c : Nat} (hc : c ≤ 20) (ec : τ.1 0 63 = nI c) (io : ir (τ.1 50) 0 5) (x1 : Int32) : ∀ (m d : Nat) (x2 : Int32), d ≤ 10000 → 10000 - d < m → x2.toInt = cd c (τ.1 50) (τ.1 51) (τ.1 52) (τ.1 53) x1 d → ∃ r : Int32, r.toInt = cd c (τ.1 50) (τ.1 51) (τ.1 52) (τ.1 53) x1 10000 ∧ M_two_L14 x1 τ m x2 (nI d) = some r := by
  intro m
  induction m with
  | zero => intro d x2 _ h; omega
  | succ m ih =>
    intro d x2 hd hm h2
    have cb := cd_b c (τ.1 50) (τ.1 51) (τ.1 52) (τ.1 53) x1 d
    by_cases q : d < 10000
    · have q1 : ¬ (9999 : Int32) < nI d := by rw [n_lt, n_ti (by omega), show (9999 : Int32).toInt = 9999 by decide]; omega
      obtain ⟨b, b1, b2⟩ := m_twoD hc ec io x1 x2 (nI d) (fun y2 y3 => M_two_L14 x1 τ m y2 y3)
      rw [n_ti (by omega)] at b1
      have st : M_two_L14 x1 τ (m + 1) x2 (nI d) = M_two_L14 x1 τ m (x2 + bi b) (nI (d + 1)) := by
        rw [M_two_L14, if_neg q1, b2, nI_1]
      rw [st]
      apply ih (d + 1) _ (by omega) (by omega)
      show _ = cd c (τ.1 50) (τ.1 51) (τ.1 52) (τ.1 53) x1 d + twI c (τ.1 50) (τ.1 51) (τ.1 52) (τ.1 53) x1 d
      cases b
      · rw [twI_n (fun z => by have := b1.mpr z; cases this), bi_f, Int32.add_zero, h2]; omega
      · rw [twI_y (b1.mp rfl), bi_t, n_suc (by omega), h2]
    · have e : d = 10000 := by omega
      subst e
      refine ⟨x2, h2, ?_⟩
      rw [M_two_L14, if_pos (by decide)]
theorem op_two {n : Nat} {σ τ : St} (h : Rel0 n σ τ) (x1 : Int32) : ∃ r, P_two x1 σ = some r ∧ M_two x1 τ = some r := by
  obtain ⟨hA, hB, hC, hD, hE, hS, hF, hG, hH, hI, hJ, hK, hL, hM⟩ := id h
  obtain ⟨⟨eD1, eD2, eD3, eD4, eD5⟩, cD, iD1, iD2, iD3, dD⟩ := id hD
  obtain ⟨⟨eJ1, eJ2, eJ3⟩, cJ, iJ⟩ := id hJ
  obtain ⟨c, hc, ec⟩ := cD
  unfold P_two M_two Spans_daysOfTwo_rights
  simp only [g_roundsHas, g_noRound, ← eJ1, Option.bind_some]
  cases hy : bw x1 (σ.1 64 2)
  · exact ⟨_, rfl, rfl⟩
  · simp only [if_true, Bool.not_true, Bool.false_eq_true, if_false]
    obtain ⟨r, r1, r2⟩ := c_two hc ec iD1 iD2 iD3 x1 FU 0 0 0 (by omega) (by unfold FU; omega) (by rw [n_0]; rfl) (by omega) (fun _ => by
      have := sI_nn (f := ctf (σ.1 18) (σ.1 19) (σ.1 20) x1 (0 : Nat)) (u := 2) (ctf_b (σ.1 18) (σ.1 19) (σ.1 20) x1 _) c
      omega)
    obtain ⟨s, s1, s2⟩ := m_two (τ := τ) hc (by rw [← eD1]; exact ec) (by rw [← eD2]; exact iD1) x1 FU 0 0 (by omega) (by unfold FU; omega) (by rw [n_0]; rfl)
    rw [← eD2, ← eD3, ← eD4, ← eD5] at s1
    have e : r = s := by rw [n_eq, r1, s1]
    subst e
    have r2' : Spans_daysOfTwo_rights_L7 x1 σ FU 0 0 0 = some r := r2
    rw [r2']
    exact ⟨r, rfl, s2⟩
