-- LAYER A: numbers, values, cells (abstract state over Int)
abbrev tf_Ent : Type := (Nat × List (Option (Option Nat))) ⊕ (Nat × Nat)
abbrev tf_Sto : Type := Nat → Int → Int
abbrev tf_Av : Type := Int ⊕ Int ⊕ Nat
abbrev tf_Lo : Type := List (Nat × tf_Av)
abbrev tf_Out : Type := Option tf_Av ⊕ Nat
abbrev tf_i (z : Int) : tf_Av := .inl z
abbrev tf_l (z : Int) : tf_Av := .inr (.inl z)
abbrev tf_r (k : Nat) : tf_Av := .inr (.inr k)
abbrev tf_inI (z : Int) : Prop := -2147483648 ≤ z ∧ z ≤ 2147483647
abbrev tf_inL (z : Int) : Prop := -9223372036854775808 ≤ z ∧ z ≤ 9223372036854775807
def tf_cv (ad : Nat → Nat) (v : tf_Av) : Value := match v with
  | .inl z => .int (Int32.ofInt z)
  | .inr (.inl z) => .long (Int64.ofInt z)
  | .inr (.inr k) => .ref (ad k)
def tf_okv (v : tf_Av) : Prop := match v with
  | .inl z => tf_inI z
  | .inr (.inl z) => tf_inL z
  | .inr (.inr _) => True
def tf_up (G : tf_Sto) (k : Nat) (i v : Int) : tf_Sto := fun k' i' => if k' = k ∧ i' = i then v else G k' i'
theorem tf_up_s (G : tf_Sto) (k : Nat) (i v : Int) : tf_up G k i v k i = v := by simp [tf_up]
theorem tf_up_i (G : tf_Sto) (k : Nat) {i j : Int} (v : Int) (h : j ≠ i) : tf_up G k i v k j = G k j := by simp [tf_up, h]
theorem tf_up_k (G : tf_Sto) {k k' : Nat} (i j v : Int) (h : k' ≠ k) : tf_up G k i v k' j = G k' j := by simp [tf_up, h]
theorem tf_up_kf (G : tf_Sto) {k k' : Nat} (i v : Int) (h : k' ≠ k) : tf_up G k i v k' = G k' := by funext j; simp [tf_up, h]
/-- what an array of a kind may hold: 0 int, 1 byte, 2 boolean, 3 long -/
def tf_okE (t : Nat) (z : Int) : Prop := if t = 3 then tf_inL z else if t = 1 then -128 ≤ z ∧ z ≤ 127 else if t = 2 then z = 0 ∨ z = 1 else tf_inI z
-- numbers
theorem tf_ti {z : Int} (h : tf_inI z) : (Int32.ofInt z).toInt = z := by
  obtain ⟨h1, h2⟩ := h
  rw [Int32.toInt_ofInt]
  unfold Int.bmod
  simp only [Int32.size]
  split <;> omega
theorem tf_tl {z : Int} (h : tf_inL z) : (Int64.ofInt z).toInt = z := by
  obtain ⟨h1, h2⟩ := h
  rw [Int64.toInt_ofInt]
  unfold Int.bmod
  simp only [Int64.size]
  split <;> omega
theorem tf_lt {x y : Int} (hx : tf_inI x) (hy : tf_inI y) : Int32.ofInt x < Int32.ofInt y ↔ x < y := by
  rw [Int32.lt_iff_toInt_lt, tf_ti hx, tf_ti hy]
theorem tf_le {x y : Int} (hx : tf_inI x) (hy : tf_inI y) : Int32.ofInt x ≤ Int32.ofInt y ↔ x ≤ y := by
  rw [Int32.le_iff_toInt_le, tf_ti hx, tf_ti hy]
theorem tf_eq {x y : Int} (hx : tf_inI x) (hy : tf_inI y) : Int32.ofInt x = Int32.ofInt y ↔ x = y := by
  constructor
  · intro h
    have h2 := congrArg Int32.toInt h
    rwa [tf_ti hx, tf_ti hy] at h2
  · intro h
    rw [h]
theorem tf_leq {x y : Int} (hx : tf_inL x) (hy : tf_inL y) : Int64.ofInt x = Int64.ofInt y ↔ x = y := by
  constructor
  · intro h
    have h2 := congrArg Int64.toInt h
    rwa [tf_tl hx, tf_tl hy] at h2
  · intro h
    rw [h]
theorem tf_llt {x y : Int} (hx : tf_inL x) (hy : tf_inL y) : Int64.ofInt x < Int64.ofInt y ↔ x < y := by
  rw [Int64.lt_iff_toInt_lt, tf_tl hx, tf_tl hy]
theorem tf_of (x : Int32) : Int32.ofInt x.toInt = x := by simp
theorem tf_ofl (x : Int64) : Int64.ofInt x.toInt = x := by simp
theorem tf_rng (x : Int32) : tf_inI x.toInt := by
  have h1 := Int32.le_toInt x
  have h2 := Int32.toInt_lt x
  constructor <;> omega
theorem tf_rngl (x : Int64) : tf_inL x.toInt := by
  have h1 := Int64.le_toInt x
  have h2 := Int64.toInt_lt x
  constructor <;> omega
theorem tf_0 : Int32.ofInt 0 = 0 := rfl
theorem tf_clp {i : Int} (h : tf_inI i) : (Int32.ofInt i).toNatClampNeg = i.toNat := by
  show (Int32.ofInt i).toInt.toNat = i.toNat
  rw [tf_ti h]
theorem tf_in {i : Int} {n : Nat} (h : tf_inI i) (h0 : 0 ≤ i) (h1 : i < n) : vp_in (Int32.ofInt i) n := by
  rw [vp_in_iff, tf_ti h]
  exact ⟨h0, h1⟩
theorem tf_div {x y : Int} (hx : tf_inI x) (hy : tf_inI y) (h0 : 0 ≤ x) (h1 : 0 < y) : Int32.ofInt x / Int32.ofInt y = Int32.ofInt (x / y) := by
  apply Int32.toInt_inj.mp
  have hq : tf_inI (x / y) := by
    have a := Int.ediv_nonneg h0 (Int.le_of_lt h1)
    have b : x / y ≤ x := Int.ediv_le_self y h0
    exact ⟨by omega, by have := hx.2; omega⟩
  rw [Int32.toInt_div_of_ne_right, tf_ti hx, tf_ti hy, tf_ti hq, Int.tdiv_eq_ediv_of_nonneg h0]
  intro h
  have h2 := congrArg Int32.toInt h
  rw [tf_ti hy] at h2
  have h3 : (-1 : Int32).toInt = -1 := by decide
  rw [h3] at h2
  omega
theorem tf_div_in {x y : Int} (hx : tf_inI x) (h0 : 0 ≤ x) (h1 : 0 < y) : tf_inI (x / y) := by
  have a := Int.ediv_nonneg h0 (Int.le_of_lt h1)
  have b : x / y ≤ x := Int.ediv_le_self y h0
  exact ⟨by omega, by have := hx.2; omega⟩
theorem tf_ne0 {y : Int} (hy : tf_inI y) (h1 : 0 < y) : ¬ Int32.ofInt y = 0 := by
  intro h
  have h2 := congrArg Int32.toInt h
  rw [tf_ti hy] at h2
  have h3 : (0 : Int32).toInt = 0 := by decide
  rw [h3] at h2
  omega
theorem tf_rem {x y : Int} (hx : tf_inI x) (hy : tf_inI y) (h0 : 0 ≤ x) (h1 : 0 < y) : Int32.ofInt x - Int32.ofInt x / Int32.ofInt y * Int32.ofInt y = Int32.ofInt (x % y) := by
  rw [tf_div hx hy h0 h1, ← Int32.ofInt_mul, ← Int32.ofInt_sub]
  congr 1
  have h3 : x % y = x - y * (x / y) := Int.emod_def x y
  have h2 : x / y * y = y * (x / y) := Int.mul_comm _ _
  rw [h3, h2]
theorem tf_rem_in {x y : Int} (hy : tf_inI y) (h1 : 0 < y) : tf_inI (x % y) := by
  have a := Int.emod_nonneg x (show y ≠ 0 by omega)
  have b := Int.emod_lt_of_pos x h1
  exact ⟨by omega, by have := hy.2; omega⟩
theorem tf_IL {x : Int} (h : tf_inI x) : tf_inL x := by
  obtain ⟨h1, h2⟩ := h
  exact ⟨by omega, by omega⟩
theorem tf_i2l {x : Int} (h : tf_inI x) : (Int32.ofInt x).toInt64 = Int64.ofInt x := by
  apply Int64.toInt_inj.mp
  rw [Int32.toInt_toInt64, tf_ti h, tf_tl (tf_IL h)]
theorem tf_i2b {x : Int} (h : -128 ≤ x ∧ x ≤ 127) : (Int32.ofInt x).toInt8.toInt32 = Int32.ofInt x := by
  apply Int32.toInt_inj.mp
  have hi : tf_inI x := ⟨by omega, by omega⟩
  rw [Int8.toInt_toInt32, Int32.toInt_toInt8, tf_ti hi]
  show (if x % 256 < (256 + 1) / 2 then x % 256 else x % 256 - 256) = x
  split <;> omega
