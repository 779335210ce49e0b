-- MATH E: sets of bits
def b32 (w : Int) (i : Nat) : Bool := (Int32.ofInt w).toBitVec.getLsbD i
def b64 (w : Int) (i : Nat) : Bool := (Int64.ofInt w).toBitVec.getLsbD i
theorem sm32 : ∀ i : Fin 32, ((Int32.ofInt (i.val : Int) &&& 31).toBitVec.smod 32).toNat = i.val := by decide +kernel
theorem sm64 : ∀ i : Fin 64, (((Int32.ofInt (i.val : Int)).toInt64 &&& 63).toBitVec.smod 64).toNat = i.val := by decide +kernel
theorem sm32' {i : Int} (h0 : 0 ≤ i) (h1 : i < 32) : ((Int32.ofInt i &&& 31).toBitVec.smod 32).toNat = i.toNat := by
  have h := sm32 ⟨i.toNat, by omega⟩
  have e : ((⟨i.toNat, by omega⟩ : Fin 32).val : Int) = i := by show (i.toNat : Int) = i; omega
  rw [e] at h
  exact h
theorem sm64' {i : Int} (h0 : 0 ≤ i) (h1 : i < 64) : (((Int32.ofInt i).toInt64 &&& 63).toBitVec.smod 64).toNat = i.toNat := by
  have h := sm64 ⟨i.toNat, by omega⟩
  have e : ((⟨i.toNat, by omega⟩ : Fin 64).val : Int) = i := by show (i.toNat : Int) = i; omega
  rw [e] at h
  exact h
theorem bv32 (x : BitVec 32) : (Int32.ofInt x.toInt).toBitVec = x := by
  rw [Int32.toBitVec_ofInt, BitVec.ofInt_toInt]
theorem bv64 (x : BitVec 64) : (Int64.ofInt x.toInt).toBitVec = x := by
  rw [Int64.toBitVec_ofInt, BitVec.ofInt_toInt]
theorem shr32 {w i : Int} (h0 : 0 ≤ i) (h1 : i < 32) : tf_shr w i = ((Int32.ofInt w).toBitVec.sshiftRight i.toNat).toInt := by
  show ((Int32.ofInt w).toBitVec.sshiftRight' ((Int32.ofInt i &&& 31).toBitVec.smod 32)).toInt = _
  rw [BitVec.sshiftRight_eq', sm32' h0 h1]
theorem shl32 {i : Int} (h0 : 0 ≤ i) (h1 : i < 32) : tf_shl 1 i = (1#32 <<< i.toNat).toInt := by
  show ((Int32.ofInt 1).toBitVec <<< ((Int32.ofInt i &&& 31).toBitVec.smod 32)).toInt = _
  rw [BitVec.shiftLeft_eq', sm32' h0 h1]
  rfl
theorem shl64 {i : Int} (h0 : 0 ≤ i) (h1 : i < 64) : tf_lshl 1 i = (1#64 <<< i.toNat).toInt := by
  show ((Int64.ofInt 1).toBitVec <<< (((Int32.ofInt i).toInt64 &&& 63).toBitVec.smod 64)).toInt = _
  rw [BitVec.shiftLeft_eq', sm64' h0 h1]
  rfl
theorem bit_tst {w i : Int} (h0 : 0 ≤ i) (h1 : i < 32) : tf_and (tf_shr w i) 1 = if b32 w i.toNat = true then 1 else 0 := by
  rw [shr32 h0 h1]
  show ((Int32.ofInt (((Int32.ofInt w).toBitVec.sshiftRight i.toNat).toInt)).toBitVec &&& (Int32.ofInt 1).toBitVec).toInt = _
  rw [bv32, show (Int32.ofInt 1).toBitVec = 1#32 from rfl]
  have hz : (Int32.ofInt w).toBitVec.sshiftRight i.toNat &&& 1#32 = if b32 w i.toNat = true then 1#32 else 0#32 := by
    apply BitVec.eq_of_getLsbD_eq
    intro j hj
    rw [BitVec.getLsbD_and, BitVec.getLsbD_one, BitVec.getLsbD_sshiftRight]
    by_cases e : j = 0
    · subst e
      have h3 : i.toNat + 0 < 32 := by omega
      rw [if_pos h3]
      unfold b32
      cases hb : (Int32.ofInt w).toBitVec.getLsbD (i.toNat + 0) <;> simp [hb] <;> (try rw [Nat.add_zero] at hb) <;> simp [hb]
    · unfold b32
      cases hb : (Int32.ofInt w).toBitVec.getLsbD i.toNat <;> simp [e]
  rw [hz]
  split <;> rfl
theorem bit_set {w i : Int} (h0 : 0 ≤ i) (h1 : i < 32) {j : Nat} (hj : j < 32) : b32 (tf_or w (tf_shl 1 i)) j = (b32 w j || decide (j = i.toNat)) := by
  rw [shl32 h0 h1]
  unfold b32
  have e : (Int32.ofInt (tf_or w (1#32 <<< i.toNat).toInt)).toBitVec = (Int32.ofInt w).toBitVec ||| (1#32 <<< i.toNat) := by
    show (Int32.ofInt (((Int32.ofInt w).toBitVec ||| (Int32.ofInt (1#32 <<< i.toNat).toInt).toBitVec).toInt)).toBitVec = _
    rw [bv32, bv32]
  rw [e, BitVec.getLsbD_or, BitVec.getLsbD_shiftLeft, BitVec.getLsbD_one]
  congr 1
  by_cases q : j = i.toNat
  · subst q; simp [hj]
  · by_cases q2 : j < i.toNat
    · simp [q, q2]
    · have : j - i.toNat ≠ 0 := by omega
      simp [q, this]
theorem bit_set64 {w i : Int} (h0 : 0 ≤ i) (h1 : i < 64) {j : Nat} (hj : j < 64) : b64 (tf_lor w (tf_lshl 1 i)) j = (b64 w j || decide (j = i.toNat)) := by
  rw [shl64 h0 h1]
  unfold b64
  have e : (Int64.ofInt (tf_lor w (1#64 <<< i.toNat).toInt)).toBitVec = (Int64.ofInt w).toBitVec ||| (1#64 <<< i.toNat) := by
    show (Int64.ofInt (((Int64.ofInt w).toBitVec ||| (Int64.ofInt (1#64 <<< i.toNat).toInt).toBitVec).toInt)).toBitVec = _
    rw [bv64, bv64]
  rw [e, BitVec.getLsbD_or, BitVec.getLsbD_shiftLeft, BitVec.getLsbD_one]
  congr 1
  by_cases q : j = i.toNat
  · subst q; simp [hj]
  · by_cases q2 : j < i.toNat
    · simp [q, q2]
    · have : j - i.toNat ≠ 0 := by omega
      simp [q, this]
theorem bit_tst64 {w i : Int} (h0 : 0 ≤ i) (h1 : i < 64) : tf_lcmp (tf_land w (tf_lshl 1 i)) 0 = 0 ↔ b64 w i.toNat = false := by
  rw [shl64 h0 h1]
  have e : tf_land w (1#64 <<< i.toNat).toInt = ((Int64.ofInt w).toBitVec &&& (1#64 <<< i.toNat)).toInt := by
    show ((Int64.ofInt w).toBitVec &&& (Int64.ofInt (1#64 <<< i.toNat).toInt).toBitVec).toInt = _
    rw [bv64]
  rw [e]
  have hz : tf_lcmp ((Int64.ofInt w).toBitVec &&& (1#64 <<< i.toNat)).toInt 0 = 0 ↔ ((Int64.ofInt w).toBitVec &&& (1#64 <<< i.toNat)).toInt = 0 := by
    unfold tf_lcmp
    split
    · constructor <;> intro _ <;> omega
    · split
      · constructor <;> intro _ <;> omega
      · constructor <;> intro _ <;> omega
  rw [hz]
  have hz2 : ((Int64.ofInt w).toBitVec &&& (1#64 <<< i.toNat)).toInt = 0 ↔ (Int64.ofInt w).toBitVec &&& (1#64 <<< i.toNat) = 0#64 := by
    rw [← BitVec.toInt_inj]
    exact Iff.rfl
  rw [hz2]
  unfold b64
  constructor
  · intro q
    have := congrArg (fun z => z.getLsbD i.toNat) q
    simp only [BitVec.getLsbD_and, BitVec.getLsbD_shiftLeft, BitVec.getLsbD_one] at this
    have h64 : i.toNat < 64 := by omega
    simpa [h64] using this
  · intro q
    apply BitVec.eq_of_getLsbD_eq
    intro j hj
    rw [BitVec.getLsbD_and, BitVec.getLsbD_shiftLeft, BitVec.getLsbD_one]
    by_cases e : j = i.toNat
    · subst e; rw [q]; simp
    · by_cases q2 : j < i.toNat
      · simp [q2]
      · have : j - i.toNat ≠ 0 := by omega
        simp [this]
theorem b32_0 (i : Nat) : b32 0 i = false := by
  show (0#32).getLsbD i = false
  simp
theorem b64_0 (i : Nat) : b64 0 i = false := by
  show (0#64).getLsbD i = false
  simp
theorem shr6 {p : Int} (h0 : 0 ≤ p) (h1 : p < 2147483648) : tf_shr p 6 = p / 64 := by
  rw [shr32 (by omega) (by omega), BitVec.toInt_sshiftRight]
  have e : (Int32.ofInt p).toBitVec.toInt = p := tf_ti ⟨by omega, by omega⟩
  rw [e, Int.shiftRight_eq_div_pow]
  rfl
theorem and63 {p : Int} (h0 : 0 ≤ p) (h1 : p < 2147483648) : tf_and p 63 = p % 64 := by
  have e1 : tf_and p 63 = ((Int32.ofInt p).toBitVec &&& 63#32).toInt := rfl
  have e2 : (Int32.ofInt p).toBitVec.toNat = p.toNat := by
    have e : (Int32.ofInt p).toBitVec.toInt = p := tf_ti ⟨by omega, by omega⟩
    have := BitVec.toInt_eq_toNat_cond (Int32.ofInt p).toBitVec
    rw [e] at this
    have h2 := (Int32.ofInt p).toBitVec.isLt
    split at this <;> omega
  have e3 : ((Int32.ofInt p).toBitVec &&& 63#32).toNat = p.toNat % 64 := by
    rw [BitVec.toNat_and, e2]
    exact Nat.and_two_pow_sub_one_eq_mod p.toNat 6
  rw [e1, BitVec.toInt_eq_toNat_cond, e3, if_pos (by omega)]
  omega
