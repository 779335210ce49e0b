-- MATH B: counting below a bound
noncomputable def mf_b (P : Prop) : Int := @ite Int P (Classical.propDecidable P) 1 0
theorem mf_b1 {P : Prop} (h : P) : mf_b P = 1 := by unfold mf_b; exact @if_pos P (Classical.propDecidable P) h Int 1 0
theorem mf_b0 {P : Prop} (h : ¬ P) : mf_b P = 0 := by unfold mf_b; exact @if_neg P (Classical.propDecidable P) h Int 1 0
theorem mf_b_in (P : Prop) : 0 ≤ mf_b P ∧ mf_b P ≤ 1 := by
  by_cases h : P
  · rw [mf_b1 h]; omega
  · rw [mf_b0 h]; omega
theorem mf_b_iff {P Q : Prop} (h : P ↔ Q) : mf_b P = mf_b Q := by rw [propext h]
noncomputable def mf_cnt (P : Int → Prop) (n : Nat) : Int := match n with
  | 0 => 0
  | n + 1 => mf_cnt P n + mf_b (P (n : Int))
theorem mf_cnt_in (P : Int → Prop) (n : Nat) : 0 ≤ mf_cnt P n ∧ mf_cnt P n ≤ n := by
  induction n with
  | zero => exact ⟨Int.le_refl _, Int.le_refl _⟩
  | succ n ih =>
    have := mf_b_in (P (n : Int))
    show 0 ≤ mf_cnt P n + mf_b (P (n : Int)) ∧ mf_cnt P n + mf_b (P (n : Int)) ≤ ((n + 1 : Nat) : Int)
    omega
theorem mf_cnt_congr {P Q : Int → Prop} {n : Nat} (h : ∀ t : Int, 0 ≤ t → t < n → (P t ↔ Q t)) : mf_cnt P n = mf_cnt Q n := by
  induction n with
  | zero => rfl
  | succ n ih =>
    show mf_cnt P n + mf_b (P (n : Int)) = mf_cnt Q n + mf_b (Q (n : Int))
    rw [ih (fun t h0 h1 => h t h0 (by omega)), mf_b_iff (h n (by omega) (by omega))]
theorem mf_cnt_le {P Q : Int → Prop} {n : Nat} (h : ∀ t : Int, 0 ≤ t → t < n → P t → Q t) : mf_cnt P n ≤ mf_cnt Q n := by
  induction n with
  | zero => exact Int.le_refl _
  | succ n ih =>
    have h1 := ih (fun t h0 h1 => h t h0 (by omega))
    show mf_cnt P n + mf_b (P (n : Int)) ≤ mf_cnt Q n + mf_b (Q (n : Int))
    by_cases hp : P (n : Int)
    · rw [mf_b1 hp, mf_b1 (h n (by omega) (by omega) hp)]; omega
    · rw [mf_b0 hp]
      have := mf_b_in (Q (n : Int))
      omega
/-- as many in the larger one: no more are there -/
theorem mf_cnt_eq {P Q : Int → Prop} {n : Nat} (h : ∀ t : Int, 0 ≤ t → t < n → P t → Q t) (he : mf_cnt Q n ≤ mf_cnt P n) : ∀ t : Int, 0 ≤ t → t < n → Q t → P t := by
  induction n with
  | zero => intro t h0 h1; exact absurd h1 (by omega)
  | succ n ih =>
    have h1 := mf_cnt_le (P := P) (Q := Q) (n := n) (fun t h0 h1 => h t h0 (by omega))
    have he : mf_cnt Q n + mf_b (Q (n : Int)) ≤ mf_cnt P n + mf_b (P (n : Int)) := he
    have hpq : mf_b (P (n : Int)) ≤ mf_b (Q (n : Int)) := by
      by_cases hp : P (n : Int)
      · rw [mf_b1 hp, mf_b1 (h n (by omega) (by omega) hp)]; omega
      · rw [mf_b0 hp]; exact (mf_b_in _).1
    intro t h0 h2 hq
    by_cases ht : t = n
    · subst ht
      by_cases hp : P (n : Int)
      · exact hp
      · rw [mf_b0 hp, mf_b1 hq] at he
        omega
    · exact ih (fun t h0 h1 => h t h0 (by omega)) (by omega) t h0 (by omega) hq
theorem mf_cnt_or {P Q : Int → Prop} {n : Nat} (h : ∀ t : Int, 0 ≤ t → t < n → ¬ (P t ∧ Q t)) : mf_cnt (fun t => P t ∨ Q t) n = mf_cnt P n + mf_cnt Q n := by
  induction n with
  | zero => rfl
  | succ n ih =>
    show mf_cnt (fun t => P t ∨ Q t) n + mf_b (P (n : Int) ∨ Q (n : Int)) = mf_cnt P n + mf_b (P (n : Int)) + (mf_cnt Q n + mf_b (Q (n : Int)))
    rw [ih (fun t h0 h1 => h t h0 (by omega))]
    have hn := h n (by omega) (by omega)
    by_cases hp : P (n : Int)
    · have hq : ¬ Q (n : Int) := fun q => hn ⟨hp, q⟩
      rw [mf_b1 hp, mf_b0 hq, mf_b1 (Or.inl hp)]; omega
    · by_cases hq : Q (n : Int)
      · rw [mf_b0 hp, mf_b1 hq, mf_b1 (Or.inr hq)]; omega
      · rw [mf_b0 hp, mf_b0 hq, mf_b0 (fun z => by rcases z with z | z; exact hp z; exact hq z)]; omega
theorem mf_cnt_one {n : Nat} {a : Int} (h0 : 0 ≤ a) (h1 : a < n) : mf_cnt (fun t => t = a) n = 1 := by
  induction n with
  | zero => exact absurd h1 (by omega)
  | succ n ih =>
    show mf_cnt (fun t => t = a) n + mf_b ((n : Int) = a) = 1
    by_cases h : (n : Int) = a
    · rw [mf_b1 h, mf_cnt_congr (Q := fun _ => False) (fun t g0 g1 => ⟨fun q => by omega, fun q => q.elim⟩)]
      have : ∀ m : Nat, mf_cnt (fun _ => False) m = 0 := by
        intro m
        induction m with
        | zero => rfl
        | succ m ih => show mf_cnt (fun _ => False) m + mf_b False = 0; rw [ih, mf_b0 (fun q => q)]; rfl
      rw [this]; rfl
    · rw [mf_b0 h, ih (by omega)]; rfl
theorem mf_cnt_none {P : Int → Prop} {n : Nat} (h : ∀ t : Int, 0 ≤ t → t < n → ¬ P t) : mf_cnt P n = 0 := by
  induction n with
  | zero => rfl
  | succ n ih =>
    show mf_cnt P n + mf_b (P (n : Int)) = 0
    rw [ih (fun t h0 h1 => h t h0 (by omega)), mf_b0 (h n (by omega) (by omega))]; rfl
/-- one comes to them -/
theorem mf_cnt_add {P Q : Int → Prop} {n : Nat} {a : Int} (h0 : 0 ≤ a) (h1 : a < n) (hp : ¬ P a) (hq : ∀ t : Int, 0 ≤ t → t < n → (Q t ↔ P t ∨ t = a)) : mf_cnt Q n = mf_cnt P n + 1 := by
  rw [mf_cnt_congr hq, mf_cnt_or (P := P) (Q := fun t => t = a) (fun t _ _ q => hp (by have h2 : t = a := q.2; rw [← h2]; exact q.1)), mf_cnt_one h0 h1]
/-- the first of its kind -/
def mf_fst (D : Int → Prop) (K : Int → Int → Prop) (t : Int) : Prop := D t ∧ ∀ s : Int, 0 ≤ s → s < t → D s → ¬ K s t
theorem mf_fst_ex {D : Int → Prop} {K : Int → Int → Prop} (hr : ∀ t, D t → K t t) (ht : ∀ s t u, D s → D t → D u → K s t → K t u → K s u) {t : Int} (h0 : 0 ≤ t) (hd : D t) : ∃ s : Int, 0 ≤ s ∧ s ≤ t ∧ mf_fst D K s ∧ K s t := by
  have key : ∀ (m : Nat) (t : Int), 0 ≤ t → t < m → D t → ∃ s : Int, 0 ≤ s ∧ s ≤ t ∧ mf_fst D K s ∧ K s t := by
    intro m
    induction m with
    | zero => intro t h0 h1; exact absurd h1 (by omega)
    | succ m ih =>
      intro t h0 h1 hd
      by_cases h : mf_fst D K t
      · exact ⟨t, h0, Int.le_refl _, h, hr t hd⟩
      · have : ∃ s : Int, 0 ≤ s ∧ s < t ∧ D s ∧ K s t := by
          apply Classical.byContradiction
          intro q
          exact h ⟨hd, fun s s0 s1 sd sk => q ⟨s, s0, s1, sd, sk⟩⟩
        obtain ⟨s, s0, s1, sd, sk⟩ := this
        obtain ⟨u, u0, u1, u2, u3⟩ := ih s s0 (by omega) sd
        exact ⟨u, u0, by omega, u2, ht u s t u2.1 sd hd u3 sk⟩
  exact key (t.toNat + 1) t h0 (by omega) hd
/-- ids: a numbering of classes onto the numbers below c; what is counted of the ids is counted of the first of each class -/
theorem mf_cnt_ids {D : Int → Prop} {n c : Nat} {f : Int → Int} {P : Int → Prop} (hf : ∀ t : Int, 0 ≤ t → t < n → D t → 0 ≤ f t ∧ f t < c) (hs : ∀ k : Int, 0 ≤ k → k < c → P k → ∃ t : Int, 0 ≤ t ∧ t < n ∧ D t ∧ f t = k) :
    mf_cnt P c = mf_cnt (fun t => mf_fst D (fun a b => f a = f b) t ∧ P (f t)) n := by
  have key : ∀ m : Nat, m ≤ c → mf_cnt P m = mf_cnt (fun t => (mf_fst D (fun a b => f a = f b) t ∧ P (f t)) ∧ f t < m) n := by
    intro m
    induction m with
    | zero =>
      intro _
      rw [mf_cnt_none (P := fun t => (mf_fst D (fun a b => f a = f b) t ∧ P (f t)) ∧ f t < ((0 : Nat) : Int))]
      · rfl
      · intro t h0 h1 q
        have := hf t h0 h1 q.1.1.1
        have := q.2
        omega
    | succ m ih =>
      intro hm
      have e1 : mf_cnt P (m + 1) = mf_cnt P m + mf_b (P (m : Int)) := rfl
      rw [e1, ih (by omega)]
      by_cases hp : P (m : Int)
      · rw [mf_b1 hp]
        obtain ⟨t, t0, t1, t2, t3⟩ := hs m (by omega) (by omega) hp
        obtain ⟨s, s0, s1, s2, s3⟩ := mf_fst_ex (D := D) (K := fun a b => f a = f b) (fun _ _ => rfl) (fun _ _ _ _ _ _ h g => h.trans g) t0 t2
        have s3 : f s = f t := s3
        symm
        refine mf_cnt_add (a := s) s0 (by omega) (fun q => ?_) (fun u u0 u1 => ⟨fun q => ?_, fun q => ?_⟩)
        · have := q.2; omega
        · by_cases hu : f u < (m : Int)
          · exact Or.inl ⟨q.1, hu⟩
          · right
            have hfu : f u = (m : Int) := by have := q.2; omega
            rcases Int.lt_trichotomy u s with h | h | h
            · exact absurd (show f u = f s by omega) (s2.2 u u0 h q.1.1.1)
            · exact h
            · exact absurd (show f s = f u by omega) (q.1.1.2 s s0 h s2.1)
        · rcases q with q | rfl
          · exact ⟨q.1, by have := q.2; omega⟩
          · exact ⟨⟨s2, by rw [s3, t3]; exact hp⟩, by omega⟩
      · rw [mf_b0 hp, Int.add_zero]
        refine mf_cnt_congr (fun u u0 u1 => ⟨fun q => ⟨q.1, by have := q.2; omega⟩, fun q => ⟨q.1, ?_⟩⟩)
        have hne : f u ≠ (m : Int) := fun z => hp (by rw [← z]; exact q.1.2)
        have := q.2
        omega
  rw [key c (Nat.le_refl _)]
  exact mf_cnt_congr (fun t h0 h1 => ⟨fun q => q.1, fun q => ⟨q, (hf t h0 h1 q.1.1).2⟩⟩)
/-- as many classes: the finer is the coarser -/
theorem mf_ker_eq {n : Nat} {f g : Int → Int} (h : ∀ s t : Int, 0 ≤ s → s < n → 0 ≤ t → t < n → g s = g t → f s = f t)
    (he : mf_cnt (mf_fst (fun _ => True) (fun a b => g a = g b)) n ≤ mf_cnt (mf_fst (fun _ => True) (fun a b => f a = f b)) n) : ∀ s t : Int, 0 ≤ s → s < n → 0 ≤ t → t < n → f s = f t → g s = g t := by
  have h1 : ∀ t : Int, 0 ≤ t → t < n → mf_fst (fun _ => True) (fun a b => f a = f b) t → mf_fst (fun _ => True) (fun a b => g a = g b) t :=
    fun t t0 t1 q => ⟨trivial, fun s s0 s1 _ z => q.2 s s0 s1 trivial (h s t s0 (by omega) t0 t1 z)⟩
  have h2 := mf_cnt_eq h1 he
  intro s t s0 s1 t0 t1 hst
  obtain ⟨a, a0, a1, a2, a3⟩ := mf_fst_ex (D := fun _ => True) (K := fun a b => g a = g b) (fun _ _ => rfl) (fun _ _ _ _ _ _ h g => h.trans g) s0 trivial
  obtain ⟨b, b0, b1, b2, b3⟩ := mf_fst_ex (D := fun _ => True) (K := fun a b => g a = g b) (fun _ _ => rfl) (fun _ _ _ _ _ _ h g => h.trans g) t0 trivial
  have a3 : g a = g s := a3
  have b3 : g b = g t := b3
  have fa := h2 a a0 (by omega) a2
  have fb := h2 b b0 (by omega) b2
  have e1 := h a s a0 (by omega) s0 s1 a3
  have e2 := h b t b0 (by omega) t0 t1 b3
  have : a = b := by
    rcases Int.lt_trichotomy a b with q | q | q
    · exact absurd (show f a = f b by omega) (fb.2 a a0 q trivial)
    · exact q
    · exact absurd (show f b = f a by omega) (fa.2 b b0 q trivial)
  subst this
  exact a3.symm.trans b3
