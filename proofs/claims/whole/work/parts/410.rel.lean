/-! the relation between the class's state and the model's -/
abbrev ir (f : Nat → Int32) (l u : Int) : Prop := ∀ i, l ≤ (f i).toInt ∧ (f i).toInt ≤ u
def cn (x : Int32) (m : Nat) : Prop := ∃ k : Nat, k ≤ m ∧ x = nI k
def rA (cp cb ch : Int32) (la me bo tr : Nat → Int32) (cp' cb' ch' : Int32) (la' me' bo' tr' : Nat → Int32) : Prop :=
  (cp = cp' ∧ cb = cb' ∧ ch = ch' ∧ la = la' ∧ me = me' ∧ bo = bo' ∧ tr = tr') ∧ (cn cp 16 ∧ cn cb 6 ∧ cn ch 4) ∧ ir la 0 5 ∧ ir me 0 9 ∧ ir bo 0 9 ∧ ir tr 0 1000000
def rB (cp cb c : Int32) (wo wa fr to : Nat → Int32) (c' : Int32) (wo' wa' fr' to' : Nat → Int32) : Prop :=
  (c = c' ∧ wo = wo' ∧ wa = wa' ∧ fr = fr' ∧ to = to') ∧ cn c 40 ∧ ir wo 0 5 ∧ ir wa 0 15 ∧ ir fr 0 9999 ∧ ir to 0 9999 ∧ (∀ i, (fr i).toInt ≤ (to i).toInt) ∧ (∀ i : Nat, (i : Int) < c.toInt → (wa i).toInt < cp.toInt) ∧
  (∀ i j : Nat, (i : Int) < c.toInt → (j : Int) < c.toInt → i ≠ j → wo i = wo j → (to i).toInt < (fr j).toInt ∨ (to j).toInt < (fr i).toInt) ∧
  (∀ i : Nat, (i : Int) < c.toInt → (wo i).toInt < cb.toInt)
def rC (c : Int32) (wo wa fr to : Nat → Int32) (c' : Int32) (wo' wa' fr' to' : Nat → Int32) : Prop := (c = c' ∧ wo = wo' ∧ wa = wa' ∧ fr = fr' ∧ to = to') ∧ cn c 12
def rD (c : Int32) (wo wa fr to : Nat → Int32) (c' : Int32) (wo' wa' fr' to' : Nat → Int32) : Prop := (c = c' ∧ wo = wo' ∧ wa = wa' ∧ fr = fr' ∧ to = to') ∧ cn c 20 ∧ ir wo 0 5 ∧ ir fr 0 9999 ∧ ir to 0 9999 ∧ ∀ i, (fr i).toInt ≤ (to i).toInt
def rE (cb c : Int32) (ki ba ho : Nat → Int32) (c' : Int32) (ki' ba' ho' : Nat → Int32) : Prop := (c = c' ∧ ki = ki' ∧ ba = ba' ∧ ho = ho') ∧ cn c 12 ∧ ir ki 0 2 ∧ ir ba 0 5 ∧ ir ho 0 3 ∧ (∀ i : Nat, (i : Int) < c.toInt → (ba i).toInt < cb.toInt)
def rS (n : Nat) (c : Int32) (fo co da : Nat → Int32) (c' : Int32) (fo' co' da' : Nat → Int32) : Prop := (c = c' ∧ fo = fo' ∧ co = co' ∧ da = da') ∧ (∃ k : Nat, k ≤ n ∧ c = nI k) ∧ n ≤ 512 ∧ ir da 0 9999
def rF (cp c : Int32) (pa ki go ma co da : Nat → Int32) (c' : Int32) (pa' ki' go' ma' co' da' : Nat → Int32) : Prop :=
  (c = c' ∧ pa = pa' ∧ ki = ki' ∧ go = go' ∧ ma = ma' ∧ co = co' ∧ da = da') ∧ cn c 60 ∧ ir pa 0 11 ∧ ir ki 0 4 ∧ ir go 0 7 ∧ ir ma 0 99 ∧ ir co 0 999 ∧ ir da 0 9999 ∧ (∀ i : Nat, (i : Int) < c.toInt → (pa i).toInt < cp.toInt) ∧
  (∀ i j : Nat, i ≤ j → (j : Int) < c.toInt → pa i = pa j → (da i).toInt ≤ (da j).toInt)
/-- a clause as the model has it, and as the class has it -/
def encS (l v : Int32) : Int32 := if l < 4 then l else 4 + v
def encV (l v : Int32) : Int32 := if l < 4 then v else if l = 4 then 1 else if l = 5 then 2 else 0
def rT (su va le nu : Nat → Int32) : Prop := ∀ i, su i = encS (le i) (nu i) ∧ va i = encV (le i) (nu i) ∧ 0 ≤ (le i).toInt ∧ (le i).toInt ≤ 6 ∧ 0 ≤ (nu i).toInt ∧ (nu i).toInt ≤ 9999 ∧ (4 ≤ (le i).toInt → (nu i).toInt ≤ 7)
def rG (c : Int32) (la fr to ln su va : Nat → Int32) (rl : Int32) (rs rv : Nat → Int32) (c' : Int32) (la' fr' to' ln' le nu : Nat → Int32) (rl' : Int32) (re rn : Nat → Int32) : Prop :=
  (c = c' ∧ la = la' ∧ fr = fr' ∧ to = to' ∧ ln = ln') ∧ cn c 10 ∧ ir la (-1) 5 ∧ ir fr 0 9999 ∧ ir to 0 9999 ∧ ir ln 0 6 ∧ rT su va le nu ∧ (rl = rl' ∧ cn rl 6) ∧ rT rs rv re rn
def rH (cp ck c : Int32) (ki pl pa co da pd ow : Nat → Int32) (c' : Int32) (ki' pl' pa' co' da' pd' ow' : Nat → Int32) : Prop :=
  (c = c' ∧ ki = ki' ∧ pl = pl' ∧ pa = pa' ∧ co = co' ∧ da = da' ∧ pd = pd' ∧ ow = ow') ∧ cn c 20 ∧ ir ki 0 2 ∧ ir pl 0 15 ∧ ir pa 0 11 ∧ ir co 0 9999 ∧ ir da 0 9999 ∧ (∀ i, 0 ≤ (pd i).toInt ∧ (pd i).toInt ≤ (co i).toInt) ∧
  (∀ i : Nat, (i : Int) < c.toInt → (pl i).toInt < cp.toInt ∧ (pa i).toInt < ck.toInt)
def rI (ow co ra : Nat → Int32) (ow' co' ra' : Nat → Int32) : Prop := (ow = ow' ∧ co = co' ∧ ra = ra') ∧ ir ow 0 99999 ∧ ir co 0 99999 ∧ ir ra 0 2
def rJ (c : Int32) (ln st : Nat → Int32) (c' : Int32) (ln' st' : Nat → Int32) : Prop := (c = c' ∧ ln = ln' ∧ st = st') ∧ cn c 10 ∧ ir ln 0 8
def rK (ch c : Int32) (ba ho ro cr ga : Nat → Int32) (c' : Int32) (ba' ho' ro' cr' ga' : Nat → Int32) : Prop :=
  (c = c' ∧ ba = ba' ∧ ho = ho' ∧ ro = ro' ∧ cr = cr' ∧ ga = ga') ∧ cn c 9 ∧ ir ba 0 5 ∧ ir ho 0 3 ∧ ir ro 0 9 ∧ ir cr 0 999999 ∧ ir ga (-99999) 99999 ∧ (∀ i : Nat, (i : Int) < c.toInt → (ho i).toInt < ch.toInt)
def rL (ce la si : Nat → Int32) (si' la' ce' : Nat → Int32) : Prop := ce = ce' ∧ la = la' ∧ ∀ k : Nat, k < 4 → (0 ≤ (la k).toInt ∧ (la k).toInt ≤ 2) ∧ ((si k = -9 ∧ si' k = -1) ∨ (si k = si' k ∧ 0 ≤ (si k).toInt ∧ (si k).toInt ≤ 60))
def rM (fa tr fa' tr' : Int32) : Prop := fa = fa' ∧ tr = tr'
/-- all but the caches -/
def RelX (Z : Prop) (n : Nat) (σ τ : St) : Prop :=
  rA (σ.1 1 4) (σ.1 1 5) (σ.1 1 6) (σ.1 2) (σ.1 3) (σ.1 4) (σ.1 5) (τ.1 0 1) (τ.1 0 2) (τ.1 0 3) (τ.1 1) (τ.1 2) (τ.1 3) (τ.1 4) ∧
  rB (σ.1 1 4) (σ.1 1 5) (σ.1 6 4) (σ.1 7) (σ.1 8) (σ.1 9) (σ.1 10) (τ.1 0 8) (τ.1 5) (τ.1 6) (τ.1 7) (τ.1 8) ∧
  rC (σ.1 11 4) (σ.1 12) (σ.1 13) (σ.1 14) (σ.1 15) (τ.1 0 36) (τ.1 28) (τ.1 29) (τ.1 30) (τ.1 31) ∧
  rD (σ.1 16 4) (σ.1 17) (σ.1 18) (σ.1 19) (σ.1 20) (τ.1 0 63) (τ.1 50) (τ.1 51) (τ.1 52) (τ.1 53) ∧
  rE (σ.1 1 5) (σ.1 21 3) (σ.1 22) (σ.1 23) (σ.1 24) (τ.1 0 13) (τ.1 9) (τ.1 10) (τ.1 11) ∧
  rS n (σ.1 21 7) (σ.1 25) (σ.1 26) (σ.1 27) (τ.1 0 49) (τ.1 39) (τ.1 40) (τ.1 41) ∧
  rF (σ.1 21 3) (σ.1 28 6) (σ.1 29) (σ.1 30) (σ.1 31) (σ.1 32) (σ.1 33) (σ.1 34) (τ.1 0 17) (τ.1 12) (τ.1 13) (τ.1 14) (τ.1 15) (τ.1 16) (τ.1 17) ∧
  rG (σ.1 40 6) (σ.1 41) (σ.1 42) (σ.1 43) (σ.1 44) (σ.1 45) (σ.1 46) (σ.1 40 9) (σ.1 47) (σ.1 48) (τ.1 0 26) (τ.1 20) (τ.1 21) (τ.1 22) (τ.1 23) (τ.1 24) (τ.1 25) (τ.1 0 33) (τ.1 26) (τ.1 27) ∧
  rH (σ.1 1 4) (σ.1 21 3) (σ.1 49 7) (σ.1 50) (σ.1 51) (σ.1 52) (σ.1 53) (σ.1 54) (σ.1 55) (σ.1 56) (τ.1 0 41) (τ.1 32) (τ.1 33) (τ.1 34) (τ.1 35) (τ.1 36) (τ.1 37) (τ.1 38) ∧
  rI (σ.1 58) (σ.1 61) (σ.1 62) (τ.1 42) (τ.1 43) (τ.1 44) ∧
  rJ (σ.1 64 2) (σ.1 65) (σ.1 66) (τ.1 0 60) (τ.1 48) (τ.1 49) ∧
  rK (σ.1 1 6) (σ.1 67 6) (σ.1 68) (σ.1 69) (σ.1 70) (σ.1 71) (σ.1 72) (τ.1 0 68) (τ.1 54) (τ.1 55) (τ.1 56) (τ.1 57) (τ.1 58) ∧
  rL (σ.1 75) (σ.1 76) (σ.1 77) (τ.1 59) (τ.1 60) (τ.1 61) ∧
  Z
def Rel0 (n : Nat) (σ τ : St) : Prop := RelX (rM (σ.1 0 13) (σ.1 0 14) (τ.1 0 0) (τ.1 0 78)) n σ τ
theorem rel_swap {Z Z' : Prop} {n : Nat} {σ τ : St} (h : RelX Z n σ τ) (h' : Z') : RelX Z' n σ τ := by
  obtain ⟨hA, hB, hC, hD, hE, hS, hF, hG, hH, hI, hJ, hK, hL, hM⟩ := h
  exact ⟨hA, hB, hC, hD, hE, hS, hF, hG, hH, hI, hJ, hK, hL, h'⟩
theorem cn_toInt {x : Int32} {m : Nat} (h : cn x m) (hm : m ≤ 2000000) : 0 ≤ x.toInt ∧ x.toInt ≤ m := by
  obtain ⟨k, hk, rfl⟩ := h
  rw [n_ti (by omega)]; omega
theorem cn_full {x : Int32} {m : Nat} (h : cn x m) (hm : m ≤ 2000000) : (x < nI m) ↔ ¬ x = nI m := by
  obtain ⟨k, hk, rfl⟩ := h
  rw [nI_ltI (by omega) (by omega), nI_eq (by omega) (by omega)]; omega
theorem cn_in {x : Int32} {m : Nat} (h : cn x m) (hm : m ≤ 2000000) (hx : ¬ x = nI m) : inb x m := by
  obtain ⟨k, hk, rfl⟩ := h
  rw [nI_eq (by omega) (by omega)] at hx
  exact n_inb (by omega) hm
theorem cn_up {x : Int32} {m : Nat} (h : cn x m) (hm : m ≤ 2000000) (hx : ¬ x = nI m) : cn (x + 1) m := by
  obtain ⟨k, hk, rfl⟩ := h
  rw [nI_eq (by omega) (by omega)] at hx
  exact ⟨k + 1, by omega, nI_1 k⟩
theorem cn_upT {x : Int32} {m : Nat} (h : cn x m) (hm : m ≤ 2000000) : (x + 1).toInt = x.toInt + 1 := by
  obtain ⟨k, hk, rfl⟩ := h
  rw [nI_1, n_ti (by omega), n_ti (by omega)]; omega
theorem cn_tn {x : Int32} {m : Nat} (h : cn x m) (hm : m ≤ 2000000) : (x.toNatClampNeg : Int) = x.toInt := by
  obtain ⟨k, hk, rfl⟩ := h
  rw [n_ti (by omega), n_tn (by omega)]
theorem ir_upd {f : Nat → Int32} {l u : Int} (h : ir f l u) {k : Nat} {x : Int32} (h1 : l ≤ x.toInt) (h2 : x.toInt ≤ u) : ir (upd f k x) l u := by
  intro i
  unfold upd
  split
  · exact ⟨h1, h2⟩
  · exact h i
theorem sub_add (x : Int32) : x + 1 - 1 = x := Int32.add_sub_cancel x 1
theorem bw_toInt {x b : Int32} (h : bw x b = true) : 0 ≤ x.toInt ∧ x.toInt < b.toInt := bw_iff.mp h
theorem l16 : nI 16 = 16 := by decide
theorem l6 : nI 6 = 6 := by decide
theorem l4 : nI 4 = 4 := by decide
theorem l40 : nI 40 = 40 := by decide
theorem l12 : nI 12 = 12 := by decide
theorem l20 : nI 20 = 20 := by decide
theorem l60 : nI 60 = 60 := by decide
theorem l10 : nI 10 = 10 := by decide
theorem l9 : nI 9 = 9 := by decide
/-! what a call leaves of the caches, and of what they were made of -/
def sN (σ σ' : St) : Prop := σ'.1 35 4 = 0 ∨ (σ'.1 35 4 = σ.1 35 4 ∧ σ'.1 36 = σ.1 36 ∧ σ'.1 6 4 = σ.1 6 4 ∧ σ'.1 7 = σ.1 7 ∧ σ'.1 8 = σ.1 8 ∧ σ'.1 9 = σ.1 9 ∧ σ'.1 10 = σ.1 10 ∧ σ'.1 28 6 = σ.1 28 6 ∧ σ'.1 29 = σ.1 29 ∧ σ'.1 34 = σ.1 34 ∧ ∀ i : Nat, (i : Int) < (σ.1 21 3).toInt → σ'.1 23 i = σ.1 23 i)
def sW (σ σ' : St) : Prop := σ'.1 57 6 = 0 ∨ (σ'.1 57 6 = σ.1 57 6 ∧ σ'.1 58 = σ.1 58 ∧ σ'.1 59 = σ.1 59 ∧ σ'.1 61 = σ.1 61 ∧ σ'.1 62 = σ.1 62)
def sO (σ σ' : St) : Prop := σ'.1 67 9 = 0 ∨ (σ'.1 67 9 = σ.1 67 9 ∧ σ'.1 67 6 = σ.1 67 6 ∧ σ'.1 67 7 = σ.1 67 7 ∧ σ'.1 67 8 = σ.1 67 8 ∧ σ'.1 68 = σ.1 68 ∧ σ'.1 69 = σ.1 69 ∧ σ'.1 70 = σ.1 70 ∧ σ'.1 71 = σ.1 71 ∧ σ'.1 72 = σ.1 72 ∧ ∀ i : Nat, (i : Int) < (σ.1 1 6).toInt → σ'.1 5 i = σ.1 5 i)
def Sx (σ σ' : St) : Prop := sN σ σ' ∧ sW σ σ' ∧ sO σ σ'
theorem sx_refl (σ : St) : Sx σ σ := ⟨Or.inr ⟨rfl, rfl, rfl, rfl, rfl, rfl, rfl, rfl, rfl, rfl, fun _ _ => rfl⟩, Or.inr ⟨rfl, rfl, rfl, rfl, rfl⟩, Or.inr ⟨rfl, rfl, rfl, rfl, rfl, rfl, rfl, rfl, rfl, fun _ _ => rfl⟩⟩
theorem cn_ne {x : Int32} {m i : Nat} (h : cn x m) (hi : (i : Int) < x.toInt) : ¬ i = x.toNatClampNeg := by
  intro e
  have h2 : x.toNatClampNeg = x.toInt.toNat := rfl
  omega
