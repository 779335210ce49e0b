-- MATH H: the lowest bit of a word; the bits of a word counted
def bc1 (v : Int) : Int := tf_lsub v (tf_land (tf_lushr v 1) 6148914691236517205)
def bc2 (x : Int) : Int := tf_land x 3689348814741910323 + tf_land (tf_lushr x 2) 3689348814741910323
def bc3 (x : Int) : Int := x + tf_lushr x 4
def bc4 (x : Int) : Int := tf_land x 1085102592571150095
def bc5 (x : Int) : Int := x + tf_lushr x 8
def bc6 (x : Int) : Int := x + tf_lushr x 16
def bc7 (x : Int) : Int := x + tf_lushr x 32
def bc8 (x : Int) : Int := tf_and (tf_l2i x) 127
theorem bc_all : ∀ p : Fin 64, tf_inL (bc2 (bc1 (2 ^ p.val - 1))) ∧ tf_inL (bc3 (bc2 (bc1 (2 ^ p.val - 1)))) ∧ tf_inL (bc5 (bc4 (bc3 (bc2 (bc1 (2 ^ p.val - 1)))))) ∧ tf_inL (bc6 (bc5 (bc4 (bc3 (bc2 (bc1 (2 ^ p.val - 1))))))) ∧
    tf_inL (bc7 (bc6 (bc5 (bc4 (bc3 (bc2 (bc1 (2 ^ p.val - 1)))))))) ∧ bc8 (bc7 (bc6 (bc5 (bc4 (bc3 (bc2 (bc1 (2 ^ p.val - 1)))))))) = (p.val : Int) := by decide +kernel
/-- the lowest of the bits that are set -/
theorem low_ex {f : Nat → Bool} : ∀ n : Nat, (∃ i, i < n ∧ f i = true) → ∃ p, p < n ∧ f p = true ∧ ∀ j, j < p → f j = false := by
  intro n
  induction n with
  | zero => rintro ⟨i, h, -⟩; omega
  | succ n ih =>
    rintro ⟨i, h, hi⟩
    by_cases q : ∃ i, i < n ∧ f i = true
    · obtain ⟨p, p1, p2, p3⟩ := ih q
      exact ⟨p, by omega, p2, p3⟩
    · have hin : i = n := by
        apply Classical.byContradiction
        intro z
        exact q ⟨i, by omega, hi⟩
      subst hin
      refine ⟨i, by omega, hi, fun j hj => ?_⟩
      cases hb : f j with
      | false => rfl
      | true => exact absurd ⟨j, hj, hb⟩ q
theorem low_nat {x p : Nat} (h1 : x.testBit p = true) (h2 : ∀ j, j < p → x.testBit j = false) : x = 2 ^ (p + 1) * (x / 2 ^ (p + 1)) + 2 ^ p := by
  have h3 := Nat.div_add_mod x (2 ^ (p + 1))
  have h4 : x % 2 ^ (p + 1) = 2 ^ p := by
    apply Nat.eq_of_testBit_eq
    intro j
    rw [Nat.testBit_mod_two_pow, Nat.testBit_two_pow]
    by_cases e : p = j
    · subst e; simp [h1]
    · by_cases e2 : j < p
      · simp [h2 j e2, e]
      · have : ¬ j < p + 1 := by omega
        simp [this, e]
  omega
theorem low_sub {x p : Nat} (h1 : x.testBit p = true) (h2 : ∀ j, j < p → x.testBit j = false) (j : Nat) : (x - 1).testBit j = if j < p then true else (if j = p then false else x.testBit j) := by
  have e := low_nat h1 h2
  have hp : 0 < 2 ^ p := Nat.two_pow_pos p
  have hlt : 2 ^ p < 2 ^ (p + 1) := by rw [Nat.pow_succ]; omega
  have e1 : x - 1 = 2 ^ (p + 1) * (x / 2 ^ (p + 1)) + (2 ^ p - 1) := by omega
  have tx : x.testBit j = if j < p + 1 then (2 ^ p).testBit j else (x / 2 ^ (p + 1)).testBit (j - (p + 1)) := by
    conv => lhs; rw [e]
    exact Nat.testBit_two_pow_mul_add _ hlt j
  rw [tx]
  rw [e1, Nat.testBit_two_pow_mul_add _ (by omega) j, Nat.testBit_two_pow_sub_one]
  by_cases q : j < p
  · rw [if_pos (by omega), if_pos q]; simp [q]
  · rw [if_neg q]
    by_cases q2 : j = p
    · rw [if_pos (by omega), if_pos q2]; simp [q]
    · rw [if_neg (by omega), if_neg q2, if_neg (by omega)]
theorem low_bv {x : BitVec 64} {p : Nat} (hp : p < 64) (h1 : x.getLsbD p = true) (h2 : ∀ j, j < p → x.getLsbD j = false) (j : Nat) (hj : j < 64) : (x - 1#64).getLsbD j = if j < p then true else (if j = p then false else x.getLsbD j) := by
  have h0 : 0 < x.toNat := by
    apply Nat.pos_of_ne_zero
    intro z
    have : x = 0#64 := BitVec.eq_of_toNat_eq (by simp [z])
    rw [this] at h1
    simp at h1
  have e : (x - 1#64).toNat = x.toNat - 1 := by
    rw [BitVec.toNat_sub]
    have := x.isLt
    have e1 : (1#64).toNat = 1 := rfl
    rw [e1]
    omega
  show (x - 1#64).toNat.testBit j = _
  rw [e, low_sub (p := p) h1 h2 j]
  rfl
theorem low_and {x : BitVec 64} {p : Nat} (hp : p < 64) (h1 : x.getLsbD p = true) (h2 : ∀ j, j < p → x.getLsbD j = false) : x &&& -x = 1#64 <<< p := by
  have en : -x = ~~~(x - 1#64) := by
    apply BitVec.eq_of_toNat_eq
    rw [BitVec.toNat_neg, BitVec.toNat_not, BitVec.toNat_sub, show (1#64).toNat = 1 from rfl]
    have := x.isLt
    omega
  rw [en]
  apply BitVec.eq_of_getLsbD_eq
  intro j hj
  rw [BitVec.getLsbD_and, BitVec.getLsbD_not, low_bv hp h1 h2 j hj, BitVec.getLsbD_shiftLeft, BitVec.getLsbD_one]
  by_cases q : j < p
  · simp [q, h2 j q]
  · by_cases q2 : j = p
    · subst q2; simp [h1, hj]
    · have : j - p ≠ 0 := by omega
      rw [if_neg q, if_neg q2]
      cases hb : x.getLsbD j <;> simp [hj, this]
theorem low_word {v : Int} (h : tf_inL v) (h0 : v ≠ 0) : ∃ p : Nat, p < 64 ∧ b64 v p = true ∧ (∀ j, j < p → b64 v j = false) ∧ tf_lsub (tf_land v (tf_lneg v)) 1 = 2 ^ p - 1 ∧ ∀ j, j < 64 → b64 (tf_land v (tf_lsub v 1)) j = (b64 v j && !decide (j = p)) := by
  have hne : ∃ i, i < 64 ∧ b64 v i = true := by
    apply Classical.byContradiction
    intro q
    have hz : (Int64.ofInt v).toBitVec = 0#64 := by
      apply BitVec.eq_of_getLsbD_eq
      intro i hi
      cases hb : (Int64.ofInt v).toBitVec.getLsbD i with
      | false => simp
      | true => exact absurd ⟨i, hi, hb⟩ q
    have e := Int64.toInt_ofInt_of_le (n := v) (by have := h.1; omega) (by have := h.2; omega)
    have e2 : (Int64.ofInt v).toInt = 0 := by
      show (Int64.ofInt v).toBitVec.toInt = 0
      rw [hz]
      rfl
    omega
  obtain ⟨p, p1, p2, p3⟩ := low_ex 64 hne
  refine ⟨p, p1, p2, p3, ?_, ?_⟩
  · have ea : tf_land v (tf_lneg v) = (1#64 <<< p).toInt := by
      show ((Int64.ofInt v).toBitVec &&& (Int64.ofInt (-(Int64.ofInt v)).toBitVec.toInt).toBitVec).toInt = _
      rw [bv64]
      show ((Int64.ofInt v).toBitVec &&& -(Int64.ofInt v).toBitVec).toInt = _
      rw [low_and p1 p2 p3]
    rw [ea]
    show ((Int64.ofInt (1#64 <<< p).toInt).toBitVec - (Int64.ofInt 1).toBitVec).toInt = _
    rw [bv64]
    have main : ∀ p : Fin 64, ((1#64 <<< p.val) - (Int64.ofInt 1).toBitVec).toInt = 2 ^ p.val - 1 := by decide +kernel
    exact main ⟨p, p1⟩
  · intro j hj
    show ((Int64.ofInt ((Int64.ofInt v).toBitVec &&& (Int64.ofInt ((Int64.ofInt v).toBitVec - (Int64.ofInt 1).toBitVec).toInt).toBitVec).toInt).toBitVec).getLsbD j = _
    rw [bv64, bv64, BitVec.getLsbD_and, show (Int64.ofInt 1).toBitVec = 1#64 from rfl, low_bv p1 p2 p3 j hj]
    show ((Int64.ofInt v).toBitVec.getLsbD j && _) = ((Int64.ofInt v).toBitVec.getLsbD j && _)
    by_cases q : j < p
    · have : j ≠ p := by omega
      rw [if_pos q]; simp [this]
    · rw [if_neg q]
      by_cases q2 : j = p
      · rw [if_pos q2]; simp [q2]
      · rw [if_neg q2]
        cases hb : (Int64.ofInt v).toBitVec.getLsbD j <;> simp [q2]
theorem lcmp_0 {v : Int} : (if v < 0 then (-1 : Int) else if v = 0 then 0 else 1) = 0 ↔ v = 0 := by
  constructor
  · intro h
    split at h
    · omega
    · split at h
      · assumption
      · omega
  · intro h
    rw [h]
    rfl
