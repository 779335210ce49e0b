-- MATH A: equations, the least decomposition-closed equivalence, a worklist that reaches it
abbrev mf_dom (n t : Int) : Prop := 0 ≤ t ∧ t < n
def mf_eqv (R : Int → Int → Prop) : Prop := (∀ t, R t t) ∧ (∀ s t, R s t → R t s) ∧ ∀ s t u, R s t → R t u → R s u
def mf_dec (n : Int) (hd : Int → Int) (ch : Int → Int → Int) (R : Int → Int → Prop) : Prop :=
  ∀ s t, mf_dom n s → mf_dom n t → R s t → 0 ≤ hd s → hd s = hd t → ∀ k, 0 ≤ k → k < hd s % 4 → R (ch s k) (ch t k)
def mf_T (n : Int) (hd : Int → Int) (ch : Int → Int → Int) (E : List (Int × Int)) (s t : Int) : Prop :=
  ∀ R : Int → Int → Prop, mf_eqv R → mf_dec n hd ch R → (∀ q ∈ E, R q.1 q.2) → R s t
def mf_con (n : Int) (hd : Int → Int) (ch : Int → Int → Int) (E : List (Int × Int)) : Prop :=
  ∀ s t, mf_dom n s → mf_dom n t → mf_T n hd ch E s t → 0 ≤ hd s → 0 ≤ hd t → hd s = hd t
def mf_wf (n : Int) (hd : Int → Int) (ch : Int → Int → Int) : Prop :=
  ∀ t, mf_dom n t → (hd t = -1 ∨ (0 ≤ hd t ∧ hd t < 64)) ∧ ∀ k, 0 ≤ k → k < hd t % 4 → 0 ≤ hd t → mf_dom t (ch t k)
theorem mf_T_eqv {n : Int} {hd : Int → Int} {ch : Int → Int → Int} {E : List (Int × Int)} : mf_eqv (mf_T n hd ch E) :=
  ⟨fun t R h _ _ => h.1 t, fun s t h R h1 h2 h3 => h1.2.1 s t (h R h1 h2 h3), fun s t u h g R h1 h2 h3 => h1.2.2 s t u (h R h1 h2 h3) (g R h1 h2 h3)⟩
theorem mf_T_dec {n : Int} {hd : Int → Int} {ch : Int → Int → Int} {E : List (Int × Int)} : mf_dec n hd ch (mf_T n hd ch E) :=
  fun s t hs ht h h0 he k k0 k1 R h1 h2 h3 => h2 s t hs ht (h R h1 h2 h3) h0 he k k0 k1
theorem mf_T_in {n : Int} {hd : Int → Int} {ch : Int → Int → Int} {E : List (Int × Int)} {q : Int × Int} (h : q ∈ E) : mf_T n hd ch E q.1 q.2 := fun _ _ _ h3 => h3 q h
theorem mf_T_mono {n : Int} {hd : Int → Int} {ch : Int → Int → Int} {E E' : List (Int × Int)} (h : ∀ q ∈ E, q ∈ E') {s t : Int} (ht : mf_T n hd ch E s t) : mf_T n hd ch E' s t := fun R h1 h2 h3 => ht R h1 h2 (fun q hq => h3 q (h q hq))
theorem mf_T_nil {n : Int} {hd : Int → Int} {ch : Int → Int → Int} {s t : Int} (h : mf_T n hd ch [] s t) : s = t :=
  h (fun a b => a = b) ⟨fun _ => rfl, fun _ _ h => h.symm, fun _ _ _ h g => h.trans g⟩ (fun a b _ _ h _ _ k _ _ => by rw [h]) (fun q hq => by cases hq)
/-- a partition: each class by its root, a term with a sign of each class that has one -/
def mf_par (n : Int) (hd : Int → Int) (rt sh : Int → Int) : Prop := ∀ t, mf_dom n t → mf_dom n (rt t) ∧ rt (rt t) = rt t ∧
  ((sh (rt t) = -1 ∧ hd t = -1) ∨ (mf_dom n (sh (rt t)) ∧ rt (sh (rt t)) = rt t ∧ 0 ≤ hd (sh (rt t))))
/-- the partition is that of the equations -/
def mf_rep (n : Int) (hd : Int → Int) (ch : Int → Int → Int) (E : List (Int × Int)) (rt sh : Int → Int) : Prop :=
  mf_par n hd rt sh ∧ ∀ s t, mf_dom n s → mf_dom n t → (rt s = rt t ↔ mf_T n hd ch E s t)
def mf_inv (n : Int) (hd : Int → Int) (ch : Int → Int → Int) (E : List (Int × Int)) (rt sh : Int → Int) (Q : Int → Int → Prop) : Prop :=
  mf_par n hd rt sh ∧ (∀ u v, Q u v → mf_dom n u ∧ mf_dom n v ∧ mf_T n hd ch E u v) ∧ (∀ s t, mf_dom n s → mf_dom n t → rt s = rt t → mf_T n hd ch E s t) ∧
  ∀ R : Int → Int → Prop, mf_eqv R → (∀ s t, mf_dom n s → mf_dom n t → rt s = rt t → R s t) → (∀ u v, Q u v → R u v) →
    (∀ q ∈ E, R q.1 q.2) ∧ ∀ s t, mf_dom n s → mf_dom n t → rt s = rt t → 0 ≤ hd s → 0 ≤ hd t → hd s = hd t ∧ ∀ k, 0 ≤ k → k < hd s % 4 → R (ch s k) (ch t k)
theorem mf_wf_ch {n : Int} {hd : Int → Int} {ch : Int → Int → Int} (h : mf_wf n hd ch) {t k : Int} (ht : mf_dom n t) (h0 : 0 ≤ hd t) (k0 : 0 ≤ k) (k1 : k < hd t % 4) : mf_dom n (ch t k) := by
  have := (h t ht).2 k k0 k1 h0
  exact ⟨this.1, by have := this.2; have := ht.2; omega⟩
section
variable {n : Int} {hd : Int → Int} {ch : Int → Int → Int} {E : List (Int × Int)} {rt sh rt' sh' : Int → Int} {Q Q' : Int → Int → Prop} {a b : Int}
theorem mf_begin (hw : mf_wf n hd ch) (hE : ∀ q ∈ E, mf_dom n q.1 ∧ mf_dom n q.2) (hr : mf_rep n hd ch E rt sh) (hc : mf_con n hd ch E) (ha : mf_dom n a) (hb : mf_dom n b) : mf_inv n hd ch (E ++ [(a, b)]) rt sh (fun u v => u = a ∧ v = b) := by
  have hm : ∀ q ∈ E, q ∈ E ++ [(a, b)] := fun q hq => List.mem_append_left _ hq
  refine ⟨hr.1, fun u v h => ?_, fun s t hs ht h => mf_T_mono hm ((hr.2 s t hs ht).mp h), fun R hR hk hq => ⟨fun q hq0 => ?_, fun s t hs ht h h0 h1 => ?_⟩⟩
  · obtain ⟨rfl, rfl⟩ := h
    exact ⟨ha, hb, mf_T_in (q := (u, v)) (List.mem_append_right _ List.mem_cons_self)⟩
  · rcases List.mem_append.mp hq0 with h | h
    · have hT : mf_T n hd ch E q.1 q.2 := mf_T_in h
      exact hk _ _ (hE q h).1 (hE q h).2 ((hr.2 _ _ (hE q h).1 (hE q h).2).mpr hT)
    · have : q = (a, b) := by simpa using h
      rw [this]
      exact hq a b ⟨rfl, rfl⟩
  · have hT := (hr.2 s t hs ht).mp h
    have he := hc s t hs ht hT h0 h1
    refine ⟨he, fun k k0 k1 => ?_⟩
    have d1 := mf_wf_ch hw hs h0 k0 k1
    have d2 := mf_wf_ch hw ht h1 k0 (by rw [← he]; exact k1)
    exact hk _ _ d1 d2 ((hr.2 _ _ d1 d2).mpr (mf_T_dec s t hs ht hT h0 he k k0 k1))
theorem mf_same (I : mf_inv n hd ch E rt sh Q) (hab : Q a b) (h : rt a = rt b) (h1 : ∀ u v, Q u v → (u = a ∧ v = b) ∨ Q' u v) (h2 : ∀ u v, Q' u v → Q u v) : mf_inv n hd ch E rt sh Q' := by
  obtain ⟨i1, i2, i3, i4⟩ := I
  refine ⟨i1, fun u v q => i2 u v (h2 u v q), i3, fun R hR hk hq => i4 R hR hk (fun u v q => ?_)⟩
  rcases h1 u v q with ⟨rfl, rfl⟩ | q
  · exact hk _ _ (i2 _ _ hab).1 (i2 _ _ hab).2.1 h
  · exact hq u v q
/-- the class 'gone' goes into the class 'keep' -/
theorem mf_merge (I : mf_inv n hd ch E rt sh Q) (hab : Q a b) (hne : rt a ≠ rt b) {keep gone : Int} (hkg : (keep = rt a ∧ gone = rt b) ∨ (keep = rt b ∧ gone = rt a))
    (hh : sh (rt a) = -1 ∨ sh (rt b) = -1 ∨ hd (sh (rt a)) = hd (sh (rt b)))
    (hrt : ∀ t, mf_dom n t → rt' t = if rt t = gone then keep else rt t) (hsk : sh' keep = if sh keep = -1 then sh gone else sh keep) (hso : ∀ r, mf_dom n r → rt r = r → r ≠ keep → r ≠ gone → sh' r = sh r)
    (h1 : ∀ u v, Q u v → (u = a ∧ v = b) ∨ Q' u v)
    (h2 : ∀ u v, Q' u v → Q u v ∨ (sh (rt a) ≠ -1 ∧ sh (rt b) ≠ -1 ∧ ∃ k, 0 ≤ k ∧ k < hd (sh (rt a)) % 4 ∧ u = ch (sh (rt a)) k ∧ v = ch (sh (rt b)) k))
    (h3 : sh (rt a) ≠ -1 → sh (rt b) ≠ -1 → ∀ k, 0 ≤ k → k < hd (sh (rt a)) % 4 → Q' (ch (sh (rt a)) k) (ch (sh (rt b)) k)) (hw : mf_wf n hd ch) : mf_inv n hd ch E rt' sh' Q' := by
  obtain ⟨i1, i2, i3, i4⟩ := I
  obtain ⟨da, db, hT⟩ := i2 a b hab
  obtain ⟨ra1, ra2, ra3⟩ := i1 a da
  obtain ⟨rb1, rb2, rb3⟩ := i1 b db
  have hkr : mf_dom n keep ∧ rt keep = keep := by rcases hkg with ⟨rfl, -⟩ | ⟨rfl, -⟩ <;> exact ⟨by assumption, by assumption⟩
  have hgr : mf_dom n gone ∧ rt gone = gone := by rcases hkg with ⟨-, rfl⟩ | ⟨-, rfl⟩ <;> exact ⟨by assumption, by assumption⟩
  have hkg' : keep ≠ gone := by
    rcases hkg with ⟨rfl, rfl⟩ | ⟨rfl, rfl⟩
    · exact hne
    · exact fun q => hne q.symm
  -- the shapes of the two classes, whoever is kept
  have hkeepab : (∀ t, mf_dom n t → rt t = keep → hd t = -1 ∨ (mf_dom n (sh keep) ∧ rt (sh keep) = keep ∧ 0 ≤ hd (sh keep))) := by
    intro t ht h
    obtain ⟨-, -, h3⟩ := i1 t ht
    rw [h] at h3
    rcases h3 with ⟨-, h3⟩ | h3
    · exact Or.inl h3
    · exact Or.inr h3
  -- the new partition, by classes
  have hnew : ∀ s t, mf_dom n s → mf_dom n t → (rt' s = rt' t ↔ rt s = rt t ∨ (rt s = keep ∧ rt t = gone) ∨ (rt s = gone ∧ rt t = keep)) := by
    intro s t hs ht
    rw [hrt s hs, hrt t ht]
    by_cases p1 : rt s = gone <;> by_cases p2 : rt t = gone
    · simp [p1, p2]
    · rw [if_pos p1, if_neg p2]
      constructor
      · intro h; exact Or.inr (Or.inr ⟨p1, h.symm⟩)
      · rintro (h | ⟨h, h'⟩ | ⟨h, h'⟩)
        · exact absurd (h.symm.trans p1) p2
        · exact absurd h' p2
        · exact h'.symm
    · rw [if_neg p1, if_pos p2]
      constructor
      · intro h; exact Or.inr (Or.inl ⟨h, p2⟩)
      · rintro (h | ⟨h, h'⟩ | ⟨h, h'⟩)
        · exact absurd (h.trans p2) p1
        · exact h
        · exact absurd h p1
    · rw [if_neg p1, if_neg p2]
      constructor
      · intro h; exact Or.inl h
      · rintro (h | ⟨h, h'⟩ | ⟨h, h'⟩)
        · exact h
        · exact absurd h' p2
        · exact absurd h p1
  -- members of the two classes are T-related
  have hTkg : ∀ s t, mf_dom n s → mf_dom n t → rt s = keep → rt t = gone → mf_T n hd ch E s t := by
    intro s t hs ht h h'
    rcases hkg with ⟨rfl, rfl⟩ | ⟨rfl, rfl⟩
    · exact mf_T_eqv.2.2 _ _ _ (i3 s a hs da h) (mf_T_eqv.2.2 _ _ _ hT (i3 b t db ht h'.symm))
    · exact mf_T_eqv.2.2 _ _ _ (i3 s b hs db h) (mf_T_eqv.2.2 _ _ _ (mf_T_eqv.2.1 _ _ hT) (i3 a t da ht h'.symm))
  refine ⟨fun t ht => ?_, fun u v q => ?_, fun s t hs ht h => ?_, fun R hR hk hq => ?_⟩
  · -- the partition is one
    obtain ⟨t1, t2, t3⟩ := i1 t ht
    by_cases p : rt t = gone
    · have e1 : rt' t = keep := by rw [hrt t ht, if_pos p]
      rw [e1]
      refine ⟨hkr.1, by rw [hrt keep hkr.1, hkr.2, if_neg hkg'], ?_⟩
      rw [hsk]
      by_cases q : sh keep = -1
      · rw [if_pos q]
        rw [p] at t3
        rcases t3 with t3 | ⟨t4, t5, t6⟩
        · exact Or.inl t3
        · exact Or.inr ⟨t4, by rw [hrt _ t4, t5, if_pos rfl], t6⟩
      · rw [if_neg q]
        obtain ⟨-, -, k3⟩ := i1 keep hkr.1
        rw [hkr.2] at k3
        rcases k3 with ⟨k3, -⟩ | ⟨k4, k5, k6⟩
        · exact absurd k3 q
        · exact Or.inr ⟨k4, by rw [hrt _ k4, k5, if_neg hkg'], k6⟩
    · have e1 : rt' t = rt t := by rw [hrt t ht, if_neg p]
      rw [e1]
      refine ⟨t1, by rw [hrt _ t1, t2, if_neg p], ?_⟩
      by_cases q : rt t = keep
      · rw [q, hsk]
        by_cases q2 : sh keep = -1
        · rw [if_pos q2]
          rw [q, q2] at t3
          have hdt : hd t = -1 := by
            rcases t3 with ⟨-, t3⟩ | ⟨t3, -, -⟩
            · exact t3
            · exact absurd t3.1 (by omega)
          obtain ⟨-, -, g3⟩ := i1 gone hgr.1
          rw [hgr.2] at g3
          rcases g3 with ⟨g3, -⟩ | ⟨g4, g5, g6⟩
          · exact Or.inl ⟨g3, hdt⟩
          · exact Or.inr ⟨g4, by rw [hrt _ g4, g5, if_pos rfl], g6⟩
        · rw [if_neg q2]
          rw [q] at t3
          rcases t3 with ⟨t3, -⟩ | ⟨t4, t5, t6⟩
          · exact absurd t3 q2
          · exact Or.inr ⟨t4, by rw [hrt _ t4, t5, if_neg hkg'], t6⟩
      · rw [hso _ t1 t2 q p]
        rcases t3 with t3 | ⟨t4, t5, t6⟩
        · exact Or.inl t3
        · exact Or.inr ⟨t4, by rw [hrt _ t4, t5, if_neg p], t6⟩
  · rcases h2 u v q with q | ⟨p1, p2, k, k0, k1, rfl, rfl⟩
    · exact i2 u v q
    · rcases ra3 with ⟨q, -⟩ | ⟨a4, a5, a6⟩
      · exact absurd q p1
      rcases rb3 with ⟨q, -⟩ | ⟨b4, b5, b6⟩
      · exact absurd q p2
      have he : hd (sh (rt a)) = hd (sh (rt b)) := by
        rcases hh with h | h | h
        · exact absurd h p1
        · exact absurd h p2
        · exact h
      refine ⟨mf_wf_ch hw a4 a6 k0 k1, mf_wf_ch hw b4 b6 k0 (by rw [← he]; exact k1), ?_⟩
      refine mf_T_dec _ _ a4 b4 ?_ a6 he k k0 k1
      exact mf_T_eqv.2.2 _ _ _ (i3 _ a a4 da a5) (mf_T_eqv.2.2 _ _ _ hT (i3 b _ db b4 b5.symm))
  · rcases (hnew s t hs ht).mp h with h | ⟨h, h'⟩ | ⟨h, h'⟩
    · exact i3 s t hs ht h
    · exact hTkg s t hs ht h h'
    · exact mf_T_eqv.2.1 _ _ (hTkg t s ht hs h' h)
  · have hold : ∀ s t, mf_dom n s → mf_dom n t → rt s = rt t → R s t := fun s t hs ht h => hk s t hs ht ((hnew s t hs ht).mpr (Or.inl h))
    have hRab : R a b := by
      refine hk a b da db ((hnew a b da db).mpr ?_)
      rcases hkg with ⟨rfl, rfl⟩ | ⟨rfl, rfl⟩
      · exact Or.inr (Or.inl ⟨rfl, rfl⟩)
      · exact Or.inr (Or.inr ⟨rfl, rfl⟩)
    obtain ⟨j1, j2⟩ := i4 R hR hold (fun u v q => by
      rcases h1 u v q with ⟨rfl, rfl⟩ | q
      · exact hRab
      · exact hq u v q)
    refine ⟨j1, ?_⟩
    -- across the two classes
    have cross : ∀ s t, mf_dom n s → mf_dom n t → rt s = rt a → rt t = rt b → 0 ≤ hd s → 0 ≤ hd t → hd s = hd t ∧ ∀ k, 0 ≤ k → k < hd s % 4 → R (ch s k) (ch t k) := by
      intro s t hs ht h h' h0 h0'
      obtain ⟨-, -, s3⟩ := i1 s hs
      obtain ⟨-, -, t3⟩ := i1 t ht
      rw [h] at s3
      rw [h'] at t3
      rcases s3 with ⟨-, s3⟩ | ⟨s4, s5, s6⟩
      · omega
      rcases t3 with ⟨-, t3⟩ | ⟨t4, t5, t6⟩
      · omega
      have n1 : sh (rt a) ≠ -1 := fun q => by rw [q] at s4; exact absurd s4.1 (by omega)
      have n2 : sh (rt b) ≠ -1 := fun q => by rw [q] at t4; exact absurd t4.1 (by omega)
      have he : hd (sh (rt a)) = hd (sh (rt b)) := by
        rcases hh with h | h | h
        · exact absurd h n1
        · exact absurd h n2
        · exact h
      obtain ⟨e1, c1⟩ := j2 s (sh (rt a)) hs s4 (h.trans s5.symm) h0 s6
      obtain ⟨e2, c2⟩ := j2 (sh (rt b)) t t4 ht (t5.trans h'.symm) t6 h0'
      refine ⟨e1.trans (he.trans e2), fun k k0 k1 => ?_⟩
      have k2 : k < hd (sh (rt a)) % 4 := by rw [← e1]; exact k1
      have k3 : k < hd (sh (rt b)) % 4 := by rw [← he]; exact k2
      exact hR.2.2 _ _ _ (c1 k k0 k1) (hR.2.2 _ _ _ (hq _ _ (h3 n1 n2 k k0 k2)) (c2 k k0 k3))
    have crossb : ∀ s t, mf_dom n s → mf_dom n t → rt s = rt b → rt t = rt a → 0 ≤ hd s → 0 ≤ hd t → hd s = hd t ∧ ∀ k, 0 ≤ k → k < hd s % 4 → R (ch s k) (ch t k) := by
      intro s t hs ht h h' h0 h0'
      obtain ⟨e1, c1⟩ := cross t s ht hs h' h h0' h0
      exact ⟨e1.symm, fun k k0 k1 => hR.2.1 _ _ (c1 k k0 (by rw [e1]; exact k1))⟩
    intro s t hs ht h h0 h0'
    rcases (hnew s t hs ht).mp h with h | ⟨h, h'⟩ | ⟨h, h'⟩
    · exact j2 s t hs ht h h0 h0'
    · rcases hkg with ⟨rfl, rfl⟩ | ⟨rfl, rfl⟩
      · exact cross s t hs ht h h' h0 h0'
      · exact crossb s t hs ht h h' h0 h0'
    · rcases hkg with ⟨rfl, rfl⟩ | ⟨rfl, rfl⟩
      · exact crossb s t hs ht h h' h0 h0'
      · exact cross s t hs ht h h' h0 h0'
theorem mf_fail (I : mf_inv n hd ch E rt sh Q) (hab : Q a b) (h1 : sh (rt a) ≠ -1) (h2 : sh (rt b) ≠ -1) (hne : hd (sh (rt a)) ≠ hd (sh (rt b))) : ¬ mf_con n hd ch E := by
  obtain ⟨i1, i2, i3, i4⟩ := I
  obtain ⟨da, db, hT⟩ := i2 a b hab
  obtain ⟨-, -, ra3⟩ := i1 a da
  obtain ⟨-, -, rb3⟩ := i1 b db
  rcases ra3 with ⟨q, -⟩ | ⟨a4, a5, a6⟩
  · exact absurd q h1
  rcases rb3 with ⟨q, -⟩ | ⟨b4, b5, b6⟩
  · exact absurd q h2
  intro hc
  exact hne (hc _ _ a4 b4 (mf_T_eqv.2.2 _ _ _ (i3 _ a a4 da a5) (mf_T_eqv.2.2 _ _ _ hT (i3 b _ db b4 b5.symm))) a6 b6)
theorem mf_done (hw : mf_wf n hd ch) (hE : ∀ q ∈ E, mf_dom n q.1 ∧ mf_dom n q.2) (I : mf_inv n hd ch E rt sh Q) (hq : ∀ u v, ¬ Q u v) : mf_rep n hd ch E rt sh ∧ mf_con n hd ch E := by
  obtain ⟨i1, i2, i3, i4⟩ := I
  -- the kernel of the partition, made an equivalence of all numbers
  let R : Int → Int → Prop := fun s t => s = t ∨ (mf_dom n s ∧ mf_dom n t ∧ rt s = rt t)
  have hR : mf_eqv R := by
    refine ⟨fun t => Or.inl rfl, fun s t h => ?_, fun s t u h g => ?_⟩
    · rcases h with rfl | ⟨h1, h2, h3⟩
      · exact Or.inl rfl
      · exact Or.inr ⟨h2, h1, h3.symm⟩
    · rcases h with rfl | ⟨h1, h2, h3⟩
      · exact g
      · rcases g with rfl | ⟨g1, g2, g3⟩
        · exact Or.inr ⟨h1, h2, h3⟩
        · exact Or.inr ⟨h1, g2, h3.trans g3⟩
  obtain ⟨j1, j2⟩ := i4 R hR (fun s t hs ht h => Or.inr ⟨hs, ht, h⟩) (fun u v q => absurd q (hq u v))
  have hdec : mf_dec n hd ch R := by
    intro s t hs ht h h0 he k k0 k1
    rcases h with rfl | ⟨-, -, h⟩
    · exact Or.inl rfl
    · exact (j2 s t hs ht h h0 (by omega)).2 k k0 k1
  have hTR : ∀ s t, mf_dom n s → mf_dom n t → mf_T n hd ch E s t → rt s = rt t := by
    intro s t hs ht h
    rcases h R hR hdec j1 with rfl | ⟨-, -, h⟩
    · rfl
    · exact h
  refine ⟨⟨i1, fun s t hs ht => ⟨i3 s t hs ht, hTR s t hs ht⟩⟩, fun s t hs ht h h0 h0' => (j2 s t hs ht (hTR s t hs ht h) h0 h0').1⟩
end
