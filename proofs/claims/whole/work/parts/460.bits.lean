/-! single bits -/
def hb (x : Int32) (k : Nat) : Bool := x.toBitVec.getLsbD k
theorem sh_amt : ∀ b : Fin 32, ((nI b.val &&& 31).toBitVec.smod 32) = BitVec.ofNat 32 b.val := by decide
theorem sh_amt6 : ∀ b : Fin 32, ((Int32.toInt64 (nI b.val) &&& 63).toBitVec.smod 64) = BitVec.ofNat 64 b.val := by decide
theorem sh_r (x : Int32) {b : Nat} (h : b < 32) (i : Nat) : (x >>> (nI b &&& 31)).toBitVec.getLsbD i = (x.toBitVec.sshiftRight b).getLsbD i := by
  rw [Int32.toBitVec_shiftRight, sh_amt ⟨b, h⟩]
  simp only [BitVec.sshiftRight', BitVec.toNat_ofNat]
  rw [Nat.mod_eq_of_lt (by omega)]
theorem sh_r0 (x : Int32) {b : Nat} (h : b < 32) : (x >>> (nI b &&& 31)).toBitVec.getLsbD 0 = hb x b := by
  rw [sh_r x h, BitVec.getLsbD_sshiftRight]
  unfold hb
  simp [h]
theorem and1 (y : Int32) : (y &&& 1 = 0) ↔ y.toBitVec.getLsbD 0 = false := by
  rw [← Int32.toBitVec_inj, Int32.toBitVec_and]
  constructor
  · intro h
    have := congrArg (fun z : BitVec 32 => z.getLsbD 0) h
    simpa using this
  · intro h
    apply BitVec.eq_of_getLsbD_eq
    intro i hi
    rw [BitVec.getLsbD_and]
    by_cases e : i = 0
    · subst e; rw [h]; simp
    · have : (1 : Int32).toBitVec = 1#32 := rfl
      rw [this, BitVec.getLsbD_one]
      simp [e]
theorem tb_iff (x : Int32) {b : Nat} (h : b < 32) : ((x >>> (nI b &&& 31)) &&& 1 = 0) ↔ hb x b = false := by
  rw [and1, sh_r0 x h]
theorem tb_one {b : Nat} (h : b < 32) (i : Nat) : ((1 : Int32) <<< (nI b &&& 31)).toBitVec.getLsbD i = decide (i = b ∧ i < 32) := by
  rw [Int32.toBitVec_shiftLeft, sh_amt ⟨b, h⟩]
  have e1 : (1 : Int32).toBitVec = 1#32 := rfl
  rw [e1]
  have e2 : (1#32 <<< BitVec.ofNat 32 b) = 1#32 <<< b := by
    rw [BitVec.shiftLeft_eq']
    rw [BitVec.toNat_ofNat, Nat.mod_eq_of_lt (by omega)]
  simp only
  rw [e2, BitVec.getLsbD_shiftLeft, BitVec.getLsbD_one]
  by_cases c1 : i < 32
  · by_cases c2 : i < b
    · simp [c1, c2]; omega
    · by_cases c3 : i = b
      · subst c3; simp [c1]
      · simp [c1, c2, c3]; omega
  · simp [c1]
theorem tb_or (x : Int32) {b : Nat} (h : b < 32) {i : Nat} (hi : i < 32) : hb (x ||| ((1 : Int32) <<< (nI b &&& 31))) i = (hb x i || decide (i = b)) := by
  unfold hb
  rw [Int32.toBitVec_or, BitVec.getLsbD_or, tb_one h]
  simp [hi]
theorem and16 (y : Int64) : (y &&& 1 = 1) ↔ y.toBitVec.getLsbD 0 = true := by
  rw [← Int64.toBitVec_inj, Int64.toBitVec_and]
  have e1 : (1 : Int64).toBitVec = 1#64 := rfl
  rw [e1]
  constructor
  · intro h
    have := congrArg (fun z : BitVec 64 => z.getLsbD 0) h
    simpa using this
  · intro h
    apply BitVec.eq_of_getLsbD_eq
    intro i hi
    rw [BitVec.getLsbD_and, BitVec.getLsbD_one]
    by_cases e : i = 0
    · subst e; rw [h]; simp
    · simp [e]
theorem sh_r06 (x : Int64) {b : Nat} (h : b < 32) : (x >>> (Int32.toInt64 (nI b) &&& 63)).toBitVec.getLsbD 0 = x.toBitVec.getLsbD b := by
  rw [Int64.toBitVec_shiftRight, sh_amt6 ⟨b, h⟩]
  simp only [BitVec.sshiftRight', BitVec.toNat_ofNat]
  rw [Nat.mod_eq_of_lt (by omega), BitVec.getLsbD_sshiftRight]
  simp
  omega
theorem ext6 (x : Int32) {b : Nat} (h : b < 32) : (Int32.toInt64 x).toBitVec.getLsbD b = hb x b := by
  unfold hb
  rw [Int32.toBitVec_toInt64, BitVec.getLsbD_signExtend]
  simp [h]
  omega
theorem g_hasBit (x : Int32) {b : Nat} (h : b < 32) (σ : St) : M_hasBit (Int32.toInt64 x) (nI b) σ = some (hb x b) := by
  unfold M_hasBit
  have e := and16 (Int32.toInt64 x >>> (Int32.toInt64 (nI b) &&& 63))
  rw [sh_r06 _ h, ext6 x h] at e
  cases q : hb x b
  · rw [if_neg (fun z => by rw [e.mp z] at q; cases q)]
  · rw [if_pos (e.mpr q)]
theorem hb_0 (k : Nat) : hb 0 k = false := by
  unfold hb
  have e1 : (0 : Int32).toBitVec = 0#32 := rfl
  rw [e1]; simp
