-- MATH C: the union-find with its history
def xh (n : Int) (hd : Int → Int) (g : Int) (mr : Int → Int) (P W S RT DP : Int → Int → Int) : Prop :=
  (∀ t, mf_dom n t → P 0 t = t ∧ W 0 t = 1 ∧ S 0 t = (if hd t = -1 then -1 else t) ∧ RT 0 t = t ∧ DP 0 t = 0) ∧
  ∀ i, 0 ≤ i → i < g → ∃ b, mf_dom n (mr i) ∧ mf_dom n b ∧ mr i ≠ b ∧ RT i (mr i) = mr i ∧ RT i b = b ∧ P (i + 1) (mr i) = b ∧
    ∀ t, mf_dom n t → P (i + 1) t = (if t = mr i then b else P i t) ∧ W (i + 1) t = (if t = b then W i b + W i (mr i) else W i t) ∧ S (i + 1) t = (if t = b then (if S i b = -1 then S i (mr i) else S i b) else S i t) ∧
      RT (i + 1) t = (if RT i t = mr i then b else RT i t) ∧ DP (i + 1) t = (if RT i t = mr i then DP i t + 1 else DP i t)
/-- one state of the history -/
def xo (n : Int) (hd : Int → Int) (i : Int) (p w s rt dp : Int → Int) : Prop :=
  (∀ t, mf_dom n t → mf_dom n (p t) ∧ mf_dom n (rt t) ∧ rt (p t) = rt t ∧ p (rt t) = rt t ∧ rt (rt t) = rt t ∧ (p t = t → rt t = t ∧ dp t = 0) ∧ 0 ≤ dp t ∧ dp t ≤ i ∧ (p t ≠ t → dp (p t) < dp t) ∧ 1 ≤ w t ∧ w t ≤ n ∧
    w (rt t) = mf_cnt (fun u => rt u = rt t) n.toNat) ∧ mf_par n hd rt s ∧ mf_cnt (fun t => rt t = t) n.toNat = n - i
theorem mf_dom_nat {n t : Int} (h : mf_dom n t) : t < (n.toNat : Int) := by
  obtain ⟨h1, h2⟩ := h
  omega
theorem mf_nat_dom {n t : Int} (h0 : 0 ≤ t) (h : t < (n.toNat : Int)) : mf_dom n t := ⟨h0, by omega⟩
set_option maxHeartbeats 1000000 in
theorem xo_step {n : Int} {hd : Int → Int} {i a b : Int} {p w s rt dp p' w' s' rt' dp' : Int → Int} (h : xo n hd i p w s rt dp) (hi : 0 ≤ i) (ha : mf_dom n a) (hb : mf_dom n b) (hne : a ≠ b) (ra : rt a = a) (rb : rt b = b)
    (hh : ∀ t, mf_dom n t → p' t = (if t = a then b else p t) ∧ w' t = (if t = b then w b + w a else w t) ∧ s' t = (if t = b then (if s b = -1 then s a else s b) else s t) ∧
      rt' t = (if rt t = a then b else rt t) ∧ dp' t = (if rt t = a then dp t + 1 else dp t)) : xo n hd (i + 1) p' w' s' rt' dp' := by
  obtain ⟨h1, h2, h3⟩ := h
  have pa : p a = a := by have := (h1 a ha).2.2.2.1; rwa [ra] at this
  have pb : p b = b := by have := (h1 b hb).2.2.2.1; rwa [rb] at this
  have cntA : w a = mf_cnt (fun u => rt u = a) n.toNat := by have := (h1 a ha).2.2.2.2.2.2.2.2.2.2.2; rwa [ra] at this
  have cntB : w b = mf_cnt (fun u => rt u = b) n.toNat := by have := (h1 b hb).2.2.2.2.2.2.2.2.2.2.2; rwa [rb] at this
  have cntAB : mf_cnt (fun u => rt' u = b) n.toNat = w b + w a := by
    rw [cntA, cntB, ← mf_cnt_or (P := fun u => rt u = b) (Q := fun u => rt u = a) (fun t _ _ q => hne (q.2.symm.trans q.1))]
    apply mf_cnt_congr
    intro t h0 h1'
    rw [(hh t (mf_nat_dom h0 h1')).2.2.2.1]
    by_cases q : rt t = a
    · rw [if_pos q]; simp [q]
    · rw [if_neg q]; simp [q]
  have hn : (0 : Int) < n := by have := ha.1; have := ha.2; omega
  have cle := (mf_cnt_in (fun u => rt' u = b) n.toNat).2
  refine ⟨fun t ht => ?_, ?_, ?_⟩
  · obtain ⟨q1, q2, q3, q4, q5, q6, q7, q8, q9, q10, q11, q12⟩ := h1 t ht
    obtain ⟨e1, e2, e3, e4, e5⟩ := hh t ht
    have dp1 : mf_dom n (p' t) := by
      rw [e1]; split
      · exact hb
      · exact q1
    have dr1 : mf_dom n (rt' t) := by
      rw [e4]; split
      · exact hb
      · exact q2
    obtain ⟨f1, f2, f3, f4, f5⟩ := hh _ dp1
    obtain ⟨g1, g2, g3, g4, g5⟩ := hh _ dr1
    refine ⟨dp1, dr1, ?_, ?_, ?_, ?_, ?_, ?_, ?_, ?_, ?_, ?_⟩
    · rw [f4, e4, e1]
      by_cases q : t = a
      · subst q
        rw [if_pos rfl, rb, if_neg (fun z => hne z.symm), ra, if_pos rfl]
      · rw [if_neg q, q3]
    · rw [g1, e4]
      by_cases q : rt t = a
      · rw [if_pos q, if_neg (fun z => hne z.symm)]; exact pb
      · rw [if_neg q, if_neg q]; exact q4
    · rw [g4, e4]
      by_cases q : rt t = a
      · rw [if_pos q, rb, if_neg (fun z => hne z.symm)]
      · rw [if_neg q, q5, if_neg q]
    · intro z
      rw [e1] at z
      rw [e4]
      by_cases q : t = a
      · rw [if_pos q] at z
        exact absurd (q.symm.trans z.symm) hne
      · rw [if_neg q] at z
        obtain ⟨w1, w2⟩ := q6 z
        rw [e5, w1, if_neg q, if_neg q]
        exact ⟨rfl, w2⟩
    · rw [e5]; clear e1 e2 e3 e4 e5 f1 f2 f3 f4 f5 g1 g2 g3 g4 g5 hh; split <;> omega
    · rw [e5]; clear e1 e2 e3 e4 e5 f1 f2 f3 f4 f5 g1 g2 g3 g4 g5 hh; split <;> omega
    · intro z
      rw [f5, e5]
      rw [e1] at z ⊢
      by_cases q : t = a
      · rw [if_pos q, rb, if_neg (fun z => hne z.symm), q, ra, if_pos rfl, ((h1 b hb).2.2.2.2.2.1 pb).2, ((h1 a ha).2.2.2.2.2.1 pa).2]
        decide
      · rw [if_neg q] at z ⊢
        rw [q3]
        have := q9 z
        clear e1 e2 e3 e4 e5 f1 f2 f3 f4 f5 g1 g2 g3 g4 g5 hh
        split <;> omega
    · rw [e2]; split
      · have w1 := (h1 b hb).2.2.2.2.2.2.2.2.2.1
        have w2 := (h1 a ha).2.2.2.2.2.2.2.2.2.1
        clear e1 e2 e3 e4 e5 f1 f2 f3 f4 f5 g1 g2 g3 g4 g5 hh
        omega
      · exact q10
    · rw [e2]; split
      · rw [← cntAB]
        clear e1 e2 e3 e4 e5 f1 f2 f3 f4 f5 g1 g2 g3 g4 g5 hh
        omega
      · exact q11
    · rw [g2, e4]
      by_cases q : rt t = a
      · rw [if_pos q, if_pos rfl, ← cntAB]
      · rw [if_neg q]
        by_cases q' : rt t = b
        · rw [if_pos q', q', ← cntAB]
        · rw [if_neg q', q12]
          apply mf_cnt_congr
          intro u h0 hu
          rw [(hh u (mf_nat_dom h0 hu)).2.2.2.1]
          by_cases qu : rt u = a
          · rw [if_pos qu, qu]
            exact ⟨fun z => absurd z.symm q, fun z => absurd z.symm q'⟩
          · rw [if_neg qu]
  · intro t ht
    obtain ⟨m1, m2, m3⟩ := h2 t ht
    obtain ⟨e1, e2, e3, e4, e5⟩ := hh t ht
    -- what a class shows, in the new state
    have key : ∀ r, mf_dom n r → rt r = r → (s r = -1 ∨ (mf_dom n (s r) ∧ rt (s r) = r ∧ 0 ≤ hd (s r))) := by
      intro r hr q
      obtain ⟨-, -, k3⟩ := h2 r hr
      rw [q] at k3
      rcases k3 with ⟨k3, -⟩ | k3
      · exact Or.inl k3
      · exact Or.inr k3
    have rt'at : ∀ u, mf_dom n u → rt' u = (if rt u = a then b else rt u) := fun u hu => (hh u hu).2.2.2.1
    have drt : mf_dom n (rt' t) := by rw [e4]; split <;> assumption
    refine ⟨drt, ?_, ?_⟩
    · rw [rt'at _ drt, e4]
      by_cases q : rt t = a
      · rw [if_pos q, rb, if_neg (fun z => hne z.symm)]
      · rw [if_neg q, m2, if_neg q]
    · rw [(hh _ drt).2.2.1, e4]
      by_cases q : rt t = a ∨ rt t = b
      · have hr : (if rt t = a then b else rt t) = b := by
          rcases q with q | q
          · rw [if_pos q]
          · rw [q, if_neg (fun z => hne z.symm)]
        rw [hr, if_pos rfl]
        rcases key b hb rb with kb | ⟨kb1, kb2, kb3⟩
        · rw [if_pos kb]
          rcases key a ha ra with ka | ⟨ka1, ka2, ka3⟩
          · left
            refine ⟨ka, ?_⟩
            rcases m3 with ⟨-, m3⟩ | ⟨z1, -, -⟩
            · exact m3
            · exfalso
              rcases q with q | q
              · rw [q, ka] at z1; have := z1.1; omega
              · rw [q, kb] at z1; have := z1.1; omega
          · right
            refine ⟨ka1, ?_, ka3⟩
            rw [rt'at _ ka1, ka2, if_pos rfl]
        · have kn : s b ≠ -1 := fun z => by rw [z] at kb1; have := kb1.1; omega
          rw [if_neg kn]
          right
          refine ⟨kb1, ?_, kb3⟩
          rw [rt'at _ kb1, kb2, if_neg (fun z => hne z.symm)]
      · have q1 : rt t ≠ a := fun z => q (Or.inl z)
        have q2 : rt t ≠ b := fun z => q (Or.inr z)
        rw [if_neg q1, if_neg q2]
        rcases m3 with m3 | ⟨z1, z2, z3⟩
        · exact Or.inl m3
        · right
          refine ⟨z1, ?_, z3⟩
          rw [rt'at _ z1, z2, if_neg q1]
  · have h4 := mf_cnt_add (P := fun t => rt' t = t) (Q := fun t => rt t = t) (n := n.toNat) (a := a) ha.1 (mf_dom_nat ha) (fun z => by
      have z : rt' a = a := z
      rw [(hh a ha).2.2.2.1, ra, if_pos rfl] at z
      exact hne z.symm) (fun t h0 ht => by
        show rt t = t ↔ rt' t = t ∨ t = a
        rw [(hh t (mf_nat_dom h0 ht)).2.2.2.1]
        by_cases q : rt t = a
        · rw [if_pos q, q]
          constructor
          · intro z; exact Or.inr z.symm
          · rintro (z | z)
            · exfalso; subst z; rw [rb] at q; exact hne q.symm
            · exact z.symm
        · rw [if_neg q]
          constructor
          · intro z; exact Or.inl z
          · rintro (z | z)
            · exact z
            · subst z; exact ra)
    omega
theorem xh_all {n : Int} {hd : Int → Int} {g : Int} {mr : Int → Int} {P W S RT DP : Int → Int → Int} (h : xh n hd g mr P W S RT DP) (hn : 0 ≤ n) (hhd : ∀ t, mf_dom n t → hd t = -1 ∨ 0 ≤ hd t) :
    ∀ i : Nat, (i : Int) ≤ g → xo n hd i (P i) (W i) (S i) (RT i) (DP i) := by
  obtain ⟨h0, h1⟩ := h
  intro i
  induction i with
  | zero =>
    intro _
    have e : ((0 : Nat) : Int) = 0 := rfl
    rw [e]
    refine ⟨fun t ht => ?_, fun t ht => ?_, ?_⟩
    · obtain ⟨q1, q2, q3, q4, q5⟩ := h0 t ht
      rw [q1, q2, q4, q5]
      rw [q1, q4]
      refine ⟨ht, ht, rfl, rfl, rfl, fun _ => ⟨rfl, rfl⟩, by omega, by omega, fun z => absurd rfl z, by omega, ?_, ?_⟩
      · have := ht.1; have := ht.2; omega
      · rw [q2]
        have := mf_cnt_one (n := n.toNat) (a := t) ht.1 (mf_dom_nat ht)
        rw [← this]
        apply mf_cnt_congr
        intro u u0 u1
        rw [(h0 u (mf_nat_dom u0 u1)).2.2.2.1]
    · obtain ⟨q1, q2, q3, q4, q5⟩ := h0 t ht
      rw [q4, q4, q3]
      refine ⟨ht, rfl, ?_⟩
      rcases hhd t ht with z | z
      · rw [if_pos z]; exact Or.inl ⟨rfl, z⟩
      · have z' : hd t ≠ -1 := by omega
        rw [if_neg z']
        exact Or.inr ⟨ht, q4, z⟩
    · have e2 : mf_cnt (fun t => RT 0 t = t) n.toNat = mf_cnt (fun _ => True) n.toNat := mf_cnt_congr (fun t t0 t1 => ⟨fun _ => trivial, fun _ => (h0 t (mf_nat_dom t0 t1)).2.2.2.1⟩)
      rw [e2]
      have e3 : ∀ m : Nat, mf_cnt (fun _ => True) m = m := by
        intro m
        induction m with
        | zero => rfl
        | succ m ih =>
          show mf_cnt (fun _ => True) m + mf_b True = ((m + 1 : Nat) : Int)
          rw [ih, mf_b1 trivial]
          omega
      rw [e3]
      omega
  | succ i ih =>
    intro hi
    have hi' : (i : Int) < g := by omega
    have ho := ih (by omega)
    obtain ⟨b, d1, d2, d3, d4, d5, d6, d7⟩ := h1 i (by omega) hi'
    have e : ((i + 1 : Nat) : Int) = (i : Int) + 1 := by omega
    rw [e]
    exact xo_step ho (by omega) d1 d2 d3 d4 d5 d7
