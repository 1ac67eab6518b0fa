/-! ===== the pure part: bits and nodes ===== -/
def bt (b : Int32) (i : Nat) : Bool := b.toBitVec.getLsbD i
theorem bt_ext {a b : Int32} (h : ∀ i, i < 32 → bt a i = bt b i) : a = b := by
  apply Int32.toBitVec_inj.mp
  apply BitVec.eq_of_getLsbD_eq
  intro k hk
  exact h k hk
theorem bt_or (a b : Int32) (i : Nat) : bt (a ||| b) i = (bt a i || bt b i) := by
  unfold bt
  rw [Int32.toBitVec_or, BitVec.getLsbD_or]
theorem bt_and (a b : Int32) (i : Nat) : bt (a &&& b) i = (bt a i && bt b i) := by
  unfold bt
  rw [Int32.toBitVec_and, BitVec.getLsbD_and]
theorem bt_xor (a b : Int32) (i : Nat) : bt (a ^^^ b) i = (bt a i ^^ bt b i) := by
  unfold bt
  rw [Int32.toBitVec_xor, BitVec.getLsbD_xor]
theorem bt_0 (i : Nat) : bt 0 i = false := by
  unfold bt
  simp
theorem bt_m1 : ∀ i, i < 32 → bt (-1) i = true := by decide +kernel
theorem bt_1 : ∀ l, l < 32 → ∀ i, i < 32 → bt ((1 : Int32) <<< (nI l &&& 31)) i = decide (i = l) := by decide +kernel
theorem bt_one : ∀ i, i < 32 → bt 1 i = decide (i = 0) := by decide +kernel
theorem and1 (x : Int32) : x &&& 1 = if bt x 0 then 1 else 0 := by
  apply bt_ext
  intro i hi
  rw [bt_and, bt_one i hi]
  by_cases e : i = 0
  · subst e
    cases bt x 0 <;> simp [bt_0] <;> decide
  · cases bt x 0
    · simp [e, bt_0]
    · simp [e, bt_one i hi]
theorem sh_nI : ∀ i, i < 32 → (nI i &&& 31).toBitVec.smod 32 = BitVec.ofNat 32 i := by decide +kernel
theorem bt_shr {b : Int32} {i : Nat} (hi : i < 32) : bt (b >>> (nI i &&& 31)) 0 = bt b i := by
  unfold bt
  rw [Int32.toBitVec_shiftRight, sh_nI i hi]
  rw [BitVec.sshiftRight_eq', BitVec.getLsbD_sshiftRight]
  simp [BitVec.toNat_ofNat, Nat.mod_eq_of_lt (show i < 4294967296 by omega), hi]
theorem bit_bt {b : Int32} {i : Nat} (hi : i < 32) : bit b i = if bt b i then 1 else 0 := by
  unfold bit
  rw [and1, bt_shr hi]
theorem bit_ne {b : Int32} {i : Nat} (hi : i < 32) : ¬ bit b i = 0 ↔ bt b i = true := by
  rw [bit_bt hi]
  cases bt b i <;> simp
theorem bit_eq1 {b : Int32} {i : Nat} (hi : i < 32) : bit b i = 1 ↔ bt b i = true := by
  rw [bit_bt hi]
  cases bt b i <;> simp
theorem bit_eq0 {b : Int32} {i : Nat} (hi : i < 32) : bit b i = 0 ↔ bt b i = false := by
  rw [bit_bt hi]
  cases bt b i <;> simp
theorem ush_nI : ∀ i, i < 32 → ((nI i).toUInt32 &&& Int32.toUInt32 31).toNat = i := by decide +kernel
theorem j_in_bt {b : Int32} {i : Nat} (hi : i < 32) : j_in b (nI i) ↔ bt b i = true := by
  unfold j_in
  have h1 : bt (j_ushr b (nI i)) 0 = bt b i := by
    unfold bt j_ushr
    show ((b.toUInt32 >>> ((nI i).toUInt32 &&& Int32.toUInt32 31)).toBitVec).getLsbD 0 = _
    rw [UInt32.toBitVec_shiftRight]
    rw [BitVec.ushiftRight_eq', BitVec.getLsbD_ushiftRight]
    have h2 := ush_nI i hi
    rw [← UInt32.toNat_toBitVec] at h2
    rw [BitVec.toNat_umod, h2]
    simp [Nat.mod_eq_of_lt hi]
  rw [and1, h1]
  constructor
  · intro h
    cases e : bt b i
    · rw [e] at h
      simp at h
    · rfl
  · intro h
    rw [h]
    exact ⟨nI_pos (by omega), by simp⟩
theorem j_in_neg {b i : Int32} (h : i < 0) : ¬ j_in b i := fun z => z.1 h
