section
variable {l : Launch} {G G' G2 : tf_Sto} {m : Nat} {D D' : List Int} {L R : Int → Int}
theorem mv.new {v a b c s k : Int} (h : mv (G 1 0) (G 2) (xC G) G) (hx : xnw v a b c G G') (hv : (v = -1 ∧ s = -1 ∧ k = 0) ∨ (0 ≤ v ∧ v < 64 ∧ s = v / 4 ∧ k = v % 4))
    (e1 : G2 42 1 = G 1 0 + 1) (e43 : ∀ t, G2 43 t = if t = G 1 0 then s else G 43 t) (e44 : ∀ t, G2 44 t = if t = G 1 0 then k else G 44 t) (e45 : ∀ t i, mf_dom (G 1 0) t → 0 ≤ i → i < 3 → G2 45 (3 * t + i) = G 45 (3 * t + i)) (e46 : 0 ≤ v → G2 45 (3 * G 1 0) = a ∧ G2 45 (3 * G 1 0 + 1) = b ∧ G2 45 (3 * G 1 0 + 2) = c) :
    mv (G' 1 0) (G' 2) (xC G') G2 := by
  obtain ⟨h1, h2⟩ := h
  obtain ⟨x1, x2, x3, x4⟩ := id hx
  obtain ⟨c1, c2, c3, c4⟩ := hx.cld
  rw [x1]
  refine ⟨e1, fun t ht => ?_⟩
  have t0 := ht.1
  have t1 := ht.2
  by_cases q : t = G 1 0
  · rw [x2, e43, e44, if_pos q, if_pos q, if_pos q]
    refine ⟨hv, fun i i0 i1 i2 => ?_⟩
    obtain ⟨d1, d2, d3⟩ := e46 i2
    have hi : i = 0 ∨ i = 1 ∨ i = 2 := by omega
    rcases hi with hi | hi | hi
    · rw [hi, q, show 3 * G 1 0 + 0 = 3 * G 1 0 by omega, d1, c2]
    · rw [hi, q, d2, c3]
    · rw [hi, q, d3, c4]
  · have ht' : mf_dom (G 1 0) t := ⟨t0, by omega⟩
    rw [x2, e43, e44, if_neg q, if_neg q, if_neg q]
    refine ⟨(h2 t ht').1, fun i i0 i1 i2 => ?_⟩
    rw [e45 t i ht' i0 (by omega), c1 t i ht' i0 (by omega)]
    exact (h2 t ht').2 i i0 i1 i2
/-- a term more on both sides -/
theorem INV.new {v a b c s k w : Int} (h : INV m D G) (hX : XI (G 46) (G 47) m D G') (hx : xnw v a b c G G') (hv : (v = -1 ∧ s = -1 ∧ k = 0) ∨ (0 ≤ v ∧ v < 64 ∧ s = v / 4 ∧ k = v % 4))
    (hk : ∀ i : Nat, i ≠ 42 → i ≠ 43 → i ≠ 44 → i ≠ 45 → G2 i = tf_up G' 67 0 w i) (hf : ∀ j : Int, j ≠ 0 → j ≠ 1 → G2 42 j = tf_up G' 67 0 w 42 j) (e1 : G2 42 1 = G 1 0 + 1) (e43 : ∀ t, G2 43 t = if t = G 1 0 then s else G 43 t) (e44 : ∀ t, G2 44 t = if t = G 1 0 then k else G 44 t) (e45 : ∀ t i, mf_dom (G 1 0) t → 0 ≤ i → i < 3 → G2 45 (3 * t + i) = G 45 (3 * t + i)) (e46 : 0 ≤ v → G2 45 (3 * G 1 0) = a ∧ G2 45 (3 * G 1 0 + 1) = b ∧ G2 45 (3 * G 1 0 + 2) = c) : INV m D G2 ∧ G2 67 0 = w := by
  obtain ⟨h1, h2, h3, h4, h5, h6, h7⟩ := h
  obtain ⟨x1, x2, x3, x4⟩ := id hx
  have k2 : ∀ i : Nat, (i ≤ 41 ∨ 67 < i) → G2 i = G' i := fun i hi => by rw [hk i (by omega) (by omega) (by omega) (by omega), tf_upo (by omega)]
  have k3 : ∀ i : Nat, i ≠ 42 → i ≠ 43 → i ≠ 44 → i ≠ 45 → i ≠ 67 → ((11 ≤ i ∧ i ≤ 14) ∨ 28 < i) → G2 i = G i := fun i q1 q2 q3 q4 q5 q6 => by rw [hk i q1 q2 q3 q4, tf_upo q5, x4 i (by omega)]
  have kf : ∀ j : Int, j ≠ 0 → j ≠ 1 → G2 42 j = G 42 j := fun j q1 q2 => by rw [hf j q1 q2, tf_upo (by decide), x4 42 (by omega)]
  refine ⟨⟨?_, ?_, ?_, ?_, ?_, ?_, ?_⟩, by rw [hk 67 (by decide) (by decide) (by decide) (by decide), tf_up_at]⟩
  · rw [k3 46 (by decide) (by decide) (by decide) (by decide) (by decide) (by decide), k3 47 (by decide) (by decide) (by decide) (by decide) (by decide) (by decide)]
    exact hX.low k2
  · rw [k2 1 (by decide), k2 2 (by decide), xC_eq (k2 3 (by decide))]
    exact h2.new hx hv e1 e43 e44 e45 e46
  · rw [kf 5 (by decide) (by decide)]; exact h3
  · rw [kf 8 (by decide) (by decide), k3 11 (by decide) (by decide) (by decide) (by decide) (by decide) (by decide)]; exact h4
  · rw [k3 11 (by decide) (by decide) (by decide) (by decide) (by decide) (by decide), k3 12 (by decide) (by decide) (by decide) (by decide) (by decide) (by decide), k3 13 (by decide) (by decide) (by decide) (by decide) (by decide) (by decide), k3 48 (by decide) (by decide) (by decide) (by decide) (by decide) (by decide), k3 49 (by decide) (by decide) (by decide) (by decide) (by decide) (by decide)]; exact h5
  · rw [kf 28 (by decide) (by decide)]; exact h6
  · rw [k3 63 (by decide) (by decide) (by decide) (by decide) (by decide) (by decide)]; exact h7
theorem pr_0 (h : INV m D G) : tf_RUN l 128 [tf_r 0, tf_r 67] G (tf_PI fun k G1 => tf_RUN l 82 [tf_r 42] G1 (tf_PI (pQ m k))) := by
  obtain ⟨b1, b2, b3, b4⟩ := h.base
  have en := h.2.1.1
  refine vc_128 ⟨⟨by decide, by decide⟩, (sx_0 h.1).mono ?_⟩
  rintro o G1 (⟨r, e, hn, er, hX, hx⟩ | ⟨e, hn, e1⟩)
  · refine Or.inl ⟨r, e, ⟨by decide, by decide⟩, tf_pi ?_⟩
    have k28 : ∀ k : Nat, 28 < k → k ≠ 67 → tf_up G1 67 0 r k = G k := fun k q1 q2 => by rw [tf_upo q2, hx.2.2.2 k (by omega)]
    have e42 : tf_up G1 67 0 r 42 1 = G 1 0 := by rw [k28 42 (by decide) (by decide), en]
    refine tf_ri (sp_82 (by rw [e42]; exact b1)) fun v G2 hM => ?_
    rw [e42] at hM
    rcases hM with ⟨_, ev, e2⟩ | ⟨q, _⟩
    · have hI := h.new (G2 := G2) (s := -1) (k := 0) (w := r) hX hx (Or.inl ⟨rfl, rfl, rfl⟩) ?_ ?_ ?_ ?_ ?_ ?_ ?_
      · exact ⟨⟨m, D, by omega, hI.1⟩, by rw [e2]; simp only [tf_upo, tf_upo', tf_up_eq, ne_eq, Nat.reduceEqDiff, not_false_eq_true, reduceCtorEq]; rfl, fun _ => by rw [hI.2, er, ev]⟩
      · intro i q1 q2 q3 q4
        rw [e2, tf_upo q1, tf_upo q3, tf_upo q2, tf_upo q1]
      · intro j q1 q2
        rw [e2, tf_up_eq, if_neg q2, tf_upo' (by decide), tf_upo' (by decide), tf_up_eq, if_neg q1]
      · rw [e2, tf_up_at]
      · intro t
        rw [e2, tf_upo' (by decide), tf_upo' (by decide), tf_up_eq, tf_upo' (by decide), k28 43 (by decide) (by decide)]
      · intro t
        rw [e2, tf_upo' (by decide), tf_up_eq, tf_upo' (by decide), tf_upo' (by decide), k28 44 (by decide) (by decide)]
      · intro t i _ _ _
        rw [e2, tf_upo' (by decide), tf_upo' (by decide), tf_upo' (by decide), tf_upo' (by decide), k28 45 (by decide) (by decide)]
      · intro q
        omega
    · omega
  · subst e1
    refine Or.inr (Or.inr (Or.inl ⟨e, tf_pi ?_⟩))
    refine tf_ri (sp_82 (by rw [en]; exact b1)) fun v G2 hM => ?_
    rw [en] at hM
    rcases hM with ⟨q, _⟩ | ⟨_, e2⟩
    · omega
    · have hm2 : mq G1 G2 := by rw [e2]; exact mq.th
      exact ⟨⟨m, D, by omega, h.bad hm2⟩, by rw [e2, tf_up_at], fun q => by omega⟩
theorem pr_1 (h : INV m D G) {s k a b c : Int} : tf_RUN l 129 [tf_r 0, tf_i s, tf_i k, tf_i a, tf_i b, tf_i c, tf_r 67] G (tf_PI fun t G1 => tf_RUN l 83 [tf_r 42, tf_i s, tf_i k, tf_i a, tf_i b, tf_i c] G1 (tf_PI (pQ m t))) := by
  obtain ⟨b1, b2, b3, b4⟩ := h.base
  have en := h.2.1.1
  refine vc_129 ⟨⟨by decide, by decide⟩, (sx_1 h.1).mono ?_⟩
  rintro o G1 (⟨r, e, hs, hn, er, hX, hx⟩ | ⟨e, hs, e1⟩ | ⟨e, hs, hn, e1⟩)
  · refine Or.inl ⟨r, e, ⟨by decide, by decide⟩, tf_pi ?_⟩
    have k28 : ∀ k : Nat, 28 < k → k ≠ 67 → tf_up G1 67 0 r k = G k := fun k q1 q2 => by rw [tf_upo q2, hx.2.2.2 k (by omega)]
    have e42 : tf_up G1 67 0 r 42 1 = G 1 0 := by rw [k28 42 (by decide) (by decide), en]
    refine tf_ri (sp_83 (by rw [e42]; exact b1)) fun v G2 hM => ?_
    rw [e42] at hM
    have s1 := hs.1
    have s2 := hs.2.1
    rcases hM with ⟨q, _⟩ | ⟨_, q, _⟩ | ⟨_, _, ev, e2⟩
    · exact absurd hs q
    · omega
    · have hI := h.new (G2 := G2) (s := s) (k := k) (w := r) hX hx (Or.inr ⟨by omega, by omega, by omega, by omega⟩) ?_ ?_ ?_ ?_ ?_ ?_ ?_
      · exact ⟨⟨m, D, by omega, hI.1⟩, by rw [e2]; simp only [tf_upo, tf_upo', tf_up_eq, ne_eq, Nat.reduceEqDiff, not_false_eq_true, reduceCtorEq]; rfl, fun _ => by rw [hI.2, er, ev]⟩
      · intro i q1 q2 q3 q4
        rw [e2, tf_upo q1, tf_upo q4, tf_upo q4, tf_upo q4, tf_upo q3, tf_upo q2, tf_upo q1]
      · intro j q1 q2
        rw [e2, tf_up_eq, if_neg q2, tf_upo' (by decide), tf_upo' (by decide), tf_upo' (by decide), tf_upo' (by decide), tf_upo' (by decide), tf_up_eq, if_neg q1]
      · rw [e2, tf_up_at]
      · intro t
        rw [e2, tf_upo' (by decide), tf_upo' (by decide), tf_upo' (by decide), tf_upo' (by decide), tf_upo' (by decide), tf_up_eq, tf_upo' (by decide), k28 43 (by decide) (by decide)]
      · intro t
        rw [e2, tf_upo' (by decide), tf_upo' (by decide), tf_upo' (by decide), tf_upo' (by decide), tf_up_eq, tf_upo' (by decide), tf_upo' (by decide), k28 44 (by decide) (by decide)]
      · intro t i ht i0 i1
        have t1 := ht.2
        rw [e2, tf_upo' (by decide), tf_up_eq, if_neg (by omega), tf_up_eq, if_neg (by omega), tf_up_eq, if_neg (by omega), tf_upo' (by decide), tf_upo' (by decide), tf_upo' (by decide), k28 45 (by decide) (by decide)]
      · intro _
        refine ⟨?_, ?_, ?_⟩
        · rw [e2, tf_upo' (by decide), tf_up_eq, if_neg (by omega), tf_up_eq, if_neg (by omega), tf_up_at]
        · rw [e2, tf_upo' (by decide), tf_up_eq, if_neg (by omega), tf_up_at]
        · rw [e2, tf_upo' (by decide), tf_up_at]
  · subst e1
    refine Or.inr (Or.inl ⟨e, tf_pi ?_⟩)
    refine tf_ri (sp_83 (by rw [en]; exact b1)) fun v G2 hM => ?_
    rw [en] at hM
    rcases hM with ⟨_, e2⟩ | ⟨q, _⟩ | ⟨q, _⟩
    · have hm2 : mq G1 G2 := by rw [e2]; exact mq.th
      exact ⟨⟨m, D, by omega, h.bad hm2⟩, by rw [e2, tf_up_at], fun q => by omega⟩
    · exact absurd q hs
    · exact absurd q hs
  · subst e1
    refine Or.inr (Or.inr (Or.inl ⟨e, tf_pi ?_⟩))
    refine tf_ri (sp_83 (by rw [en]; exact b1)) fun v G2 hM => ?_
    rw [en] at hM
    rcases hM with ⟨q, _⟩ | ⟨_, _, e2⟩ | ⟨_, q, _⟩
    · exact absurd hs q
    · have hm2 : mq G1 G2 := by rw [e2]; exact mq.th
      exact ⟨⟨m, D, by omega, h.bad hm2⟩, by rw [e2, tf_up_at], fun q => by omega⟩
    · omega
theorem pr_2 (h : INV m D G) (hm : m ≤ 4998) {a b : Int} : tf_RUN l 130 [tf_r 0, tf_i a, tf_i b, tf_r 67] G (tf_PI fun k G1 => tf_RUN l 89 [tf_r 42, tf_i a, tf_i b] G1 (tf_PI (pB m k))) := by
  obtain ⟨h1, h2, h3, h4, h5, h6, h7⟩ := id h
  refine vc_130 ⟨⟨by decide, by decide⟩, w_b (sx_2 h.1 (by omega)) (fun r G' hx => ?_) (fun r G' hx => tf_pi ?_) (fun hn => tf_pi ?_)⟩
  · rcases hx.2.2 with q | q
    · exact Or.inr q.1
    · exact Or.inl q.1
  · obtain ⟨x1, x2, x3⟩ := hx
    have kk : ∀ k : Nat, 28 < k → k ≠ 67 → tf_up G' 67 0 r k = G k := fun k q1 q2 => by rw [tf_upo q2, x2 k (by omega)]
    have hMV : MV (G 1 0) (G 2) (xC G) m (tf_up G' 67 0 r) := (h.mvs (by omega)).x fun k k1 k2 => kk k (by omega) (by omega)
    refine tf_ri (sp_89 hMV) fun v G2 hM => ?_
    obtain ⟨G3, f2, hM⟩ := hM
    rw [kk 46 (by decide) (by decide), kk 47 (by decide) (by decide)] at hM
    have k2 : ∀ k : Nat, (k ≤ 41 ∨ 67 < k) → G3 k = G' k := fun k hk => by rw [f2.1 k (by omega) (by omega) (by omega) (by omega) (by omega), tf_upo (by omega)]
    have k3 : ∀ k : Nat, k ≠ 42 → ((1 ≤ k ∧ k ≤ 3) ∨ (11 ≤ k ∧ k ≤ 14) ∨ (28 < k ∧ k < 50) ∨ k = 63) → G3 k = G k := fun k q1 q2 => by rw [f2.1 k q1 (by omega) (by omega) (by omega) (by omega), tf_upo (by omega), x2 k (by omega)]
    have kf : ∀ j : Int, j ≠ 0 → j ≠ 14 → j ≠ 18 → j ≠ 26 → j ≠ 30 → G3 42 j = G 42 j := fun j q1 q2 q3 q4 q5 => by rw [f2.2 j q1 q2 q3 q4 q5, kk 42 (by decide) (by decide)]
    have e67 : G3 67 0 = r := by rw [f2.1 67 (by decide) (by decide) (by decide) (by decide) (by decide), tf_up_at]
    have hmv : mv (G 1 0) (G 2) (xC G) G3 := h2.fr (kf 1 (by decide) (by decide) (by decide) (by decide) (by decide)) (k3 43 (by decide) (by decide)) (k3 44 (by decide) (by decide)) (k3 45 (by decide) (by decide))
    rcases hM with ⟨_, t, ev, hc, e2⟩ | ⟨_, t, ev, hc, e2⟩ | ⟨q, _⟩
    · rcases x3 with ⟨er, _, hX⟩ | ⟨_, q, _⟩
      · have u : ∀ k : Nat, k ≠ 46 → k ≠ 47 → k ≠ 42 → G2 k = G3 k := fun k q1 q2 q3 => by rw [e2, tf_upo q3, tf_upo q2, tf_upo q1]
        have uf : ∀ j : Int, j ≠ 5 → G2 42 j = G3 42 j := fun j q => by rw [e2, tf_up_eq, if_neg q, tf_upo' (by decide), tf_upo' (by decide)]
        have e46 : G2 46 = lup (G 46) m a := by
          funext j
          rw [e2, tf_upo' (by decide), tf_upo' (by decide), tf_up_eq, k3 46 (by decide) (by decide)]
          rfl
        have e47 : G2 47 = lup (G 47) m b := by
          funext j
          rw [e2, tf_upo' (by decide), tf_up_eq, tf_upo' (by decide), k3 47 (by decide) (by decide)]
          rfl
        have w : ∀ k : Nat, k ≠ 42 → k ≠ 46 → k ≠ 47 → ((1 ≤ k ∧ k ≤ 3) ∨ (11 ≤ k ∧ k ≤ 14) ∨ (28 < k ∧ k < 50) ∨ k = 63) → G2 k = G k := fun k q1 q2 q3 q4 => by rw [u k q2 q3 q1, k3 k q1 q4]
        refine ⟨⟨⟨m + 1, D, by omega, ?_, ?_, ?_, ?_, ?_, ?_, ?_⟩, ?_, fun _ => ?_⟩, fun _ => Or.inr ev⟩
        · rw [e46, e47]
          exact hX.low fun k hk => by rw [u k (by omega) (by omega) (by omega), k2 k hk]
        · rw [w 1 (by decide) (by decide) (by decide) (by decide), w 2 (by decide) (by decide) (by decide) (by decide), xC_eq (w 3 (by decide) (by decide) (by decide) (by decide))]
          exact hmv.fr (uf 1 (by decide)) (u 43 (by decide) (by decide) (by decide)) (u 44 (by decide) (by decide) (by decide)) (u 45 (by decide) (by decide) (by decide))
        · rw [e2, tf_up_at]; omega
        · rw [uf 8 (by decide), kf 8 (by decide) (by decide) (by decide) (by decide) (by decide), w 11 (by decide) (by decide) (by decide) (by decide)]; exact h4
        · rw [w 11 (by decide) (by decide) (by decide) (by decide), w 12 (by decide) (by decide) (by decide) (by decide), w 13 (by decide) (by decide) (by decide) (by decide), w 48 (by decide) (by decide) (by decide) (by decide), w 49 (by decide) (by decide) (by decide) (by decide)]; exact h5
        · rw [uf 28 (by decide), kf 28 (by decide) (by decide) (by decide) (by decide) (by decide)]; exact h6
        · rw [w 63 (by decide) (by decide) (by decide) (by decide)]; exact h7
        · rw [uf 0 (by decide)]; exact t
        · rw [u 67 (by decide) (by decide) (by decide), e67, er, ev]
      · exact absurd hc q
    · rcases x3 with ⟨_, q, _⟩ | ⟨er, _, hX⟩
      · exact absurd q hc
      · subst e2
        refine ⟨⟨⟨m, D, by omega, ?_, ?_, ?_, ?_, ?_, ?_, ?_⟩, t, fun _ => by rw [e67, er, ev]⟩, fun _ => Or.inl ev⟩
        · rw [k3 46 (by decide) (by decide), k3 47 (by decide) (by decide)]
          exact hX.low k2
        · rw [k3 1 (by decide) (by decide), k3 2 (by decide) (by decide), xC_eq (k3 3 (by decide) (by decide))]
          exact hmv
        · rw [kf 5 (by decide) (by decide) (by decide) (by decide) (by decide)]; exact h3
        · rw [kf 8 (by decide) (by decide) (by decide) (by decide) (by decide), k3 11 (by decide) (by decide)]; exact h4
        · rw [k3 11 (by decide) (by decide), k3 12 (by decide) (by decide), k3 13 (by decide) (by decide), k3 48 (by decide) (by decide), k3 49 (by decide) (by decide)]; exact h5
        · rw [kf 28 (by decide) (by decide) (by decide) (by decide) (by decide)]; exact h6
        · rw [k3 63 (by decide) (by decide)]; exact h7
    · exact absurd x1 q
  · refine tf_ri (sp_89 (h.mvs (by omega))) fun v G2 hM => ?_
    obtain ⟨G3, f2, hM⟩ := hM
    rcases hM with ⟨q, _⟩ | ⟨q, _⟩ | ⟨_, t, e2⟩
    · exact absurd q hn
    · exact absurd q hn
    · subst e2
      exact ⟨⟨⟨m, D, by omega, h.bad f2⟩, t, fun q => by omega⟩, fun q => by omega⟩
theorem pr_4 (h : INV m D G) : tf_RUN l 132 [tf_r 0, tf_r 67] G (tf_PI fun k G1 => tf_RUN l 90 [tf_r 42] G1 (tf_PI (pQ m k))) := by
  obtain ⟨h1, h2, h3, h4, h5, h6, h7⟩ := id h
  have hlv : 0 ≤ G 11 0 ∧ G 11 0 ≤ 20 := by
    obtain ⟨g, mr, P, W, S, RT, DP, _, _, _, a4, _⟩ := h1
    exact a4.1
  refine vc_132 ⟨⟨by decide, by decide⟩, (sx_4 h.1).mono ?_⟩
  rintro o G1 (⟨r, e, hn, er, hX, hk, e11, e12, e13⟩ | ⟨e, hn, e1⟩)
  · refine Or.inl ⟨r, e, ⟨by decide, by decide⟩, tf_pi ?_⟩
    have kk : ∀ k : Nat, (k < 11 ∨ 14 < k) → k ≠ 67 → tf_up G1 67 0 r k = G k := fun k q1 q2 => by rw [tf_upo q2, hk k q1]
    have e42 : tf_up G1 67 0 r 42 = G 42 := kk 42 (by decide) (by decide)
    refine tf_ri (sp_90 (by rw [e42, h4]; exact hlv)) fun v G2 hM => ?_
    rw [e42, h4] at hM
    rcases hM with ⟨_, ev, e2⟩ | ⟨q, _⟩
    · have u : ∀ k : Nat, k ≠ 42 → k ≠ 48 → k ≠ 49 → k ≠ 67 → G2 k = G1 k := fun k q1 q2 q3 q4 => by rw [e2, tf_upo q1, tf_upo q3, tf_upo q2, tf_upo q1, tf_upo q4]
      have w : ∀ k : Nat, k ≠ 42 → k ≠ 48 → k ≠ 49 → k ≠ 67 → (k < 11 ∨ 14 < k) → G2 k = G k := fun k q1 q2 q3 q4 q5 => by rw [u k q1 q2 q3 q4, hk k q5]
      have uf : ∀ j : Int, j ≠ 0 → j ≠ 8 → G2 42 j = G 42 j := fun j q q' => by rw [e2, tf_up_eq, if_neg q', tf_upo' (by decide), tf_upo' (by decide), tf_up_eq, if_neg q, e42]
      have e67 : G2 67 0 = r := by rw [e2, tf_upo' (by decide), tf_upo' (by decide), tf_upo' (by decide), tf_upo' (by decide), tf_up_at]
      have k48 : ∀ j, G2 48 j = if j = G 11 0 then G 1 0 else G 48 j := fun j => by rw [e2, tf_upo' (by decide), tf_upo' (by decide), tf_up_eq, tf_upo' (by decide), kk 48 (by decide) (by decide), h2.1]
      have k49 : ∀ j, G2 49 j = if j = G 11 0 then (m : Int) else G 49 j := fun j => by rw [e2, tf_upo' (by decide), tf_up_eq, tf_upo' (by decide), tf_upo' (by decide), kk 49 (by decide) (by decide), h3]
      refine ⟨⟨m, D, by omega, ?_, ?_, ?_, ?_, ?_, ?_, ?_⟩, ?_, fun _ => by rw [e67, er, ev]⟩
      · rw [w 46 (by decide) (by decide) (by decide) (by decide) (by decide), w 47 (by decide) (by decide) (by decide) (by decide) (by decide)]
        exact hX.low fun k hk => u k (by omega) (by omega) (by omega) (by omega)
      · rw [w 1 (by decide) (by decide) (by decide) (by decide) (by decide), w 2 (by decide) (by decide) (by decide) (by decide) (by decide), xC_eq (w 3 (by decide) (by decide) (by decide) (by decide) (by decide))]
        exact h2.fr (uf 1 (by decide) (by decide)) (w 43 (by decide) (by decide) (by decide) (by decide) (by decide)) (w 44 (by decide) (by decide) (by decide) (by decide) (by decide)) (w 45 (by decide) (by decide) (by decide) (by decide) (by decide))
      · rw [uf 5 (by decide) (by decide)]; exact h3
      · rw [u 11 (by decide) (by decide) (by decide) (by decide), e11, e2, tf_up_at]
      · rw [u 11 (by decide) (by decide) (by decide) (by decide), e11, u 12 (by decide) (by decide) (by decide) (by decide), u 13 (by decide) (by decide) (by decide) (by decide)]
        intro j hj
        rw [k48, k49, e12, e13]
        by_cases q : j = G 11 0
        · rw [if_pos q, if_pos q, if_pos q, if_pos q]
          exact ⟨rfl, rfl⟩
        · rw [if_neg q, if_neg q, if_neg q, if_neg q]
          exact h5 j ⟨hj.1, by have := hj.2; omega⟩
      · rw [uf 28 (by decide) (by decide)]; exact h6
      · rw [w 63 (by decide) (by decide) (by decide) (by decide) (by decide)]; exact h7
      · rw [e2]
        simp only [tf_upo, tf_upo', tf_up_eq, ne_eq, Nat.reduceEqDiff, not_false_eq_true, reduceCtorEq]
        rfl
    · omega
  · subst e1
    refine Or.inr (Or.inr (Or.inl ⟨e, tf_pi ?_⟩))
    refine tf_ri (sp_90 (by rw [h4]; exact hlv)) fun v G2 hM => ?_
    rw [h4] at hM
    rcases hM with ⟨q, _⟩ | ⟨_, e2⟩
    · omega
    · have hm2 : mq G1 G2 := by rw [e2]; exact mq.th
      exact ⟨⟨m, D, by omega, h.bad hm2⟩, by rw [e2, tf_up_at], fun q => by omega⟩
theorem pr_5 (h : INV m D G) (hm : m ≤ 4999) : tf_RUN l 133 [tf_r 0, tf_r 67] G (tf_PI fun k G1 => tf_RUN l 91 [tf_r 42] G1 (tf_PI (pQ m k))) := by
  obtain ⟨h1, h2, h3, h4, h5, h6, h7⟩ := id h
  have hlv : (0 ≤ G 11 0 ∧ G 11 0 ≤ 20) ∧ ∀ j, mf_dom (G 11 0) j → 0 ≤ G 13 j ∧ G 13 j ≤ m := by
    obtain ⟨g, mr, P, W, S, RT, DP, _, _, _, a4, _⟩ := h1
    exact ⟨a4.1, fun j hj => (a4.2 j hj).2.1⟩
  obtain ⟨hlv, hl2⟩ := hlv
  have hj49 : 0 < G 11 0 → 0 ≤ G 49 (G 11 0 - 1) ∧ G 49 (G 11 0 - 1) ≤ 100000 := by
    intro q
    have d : mf_dom (G 11 0) (G 11 0 - 1) := ⟨by omega, by omega⟩
    rw [(h5 _ d).2]
    have := hl2 _ d
    exact ⟨by omega, by omega⟩
  refine vc_133 ⟨⟨by decide, by decide⟩, (sx_5 h.1 hm).mono ?_⟩
  rintro o G1 (⟨r, e, hn, er, hX, hb, hc, hk, e11, e1⟩ | ⟨e, hn, e1⟩)
  · refine Or.inl ⟨r, e, ⟨by decide, by decide⟩, tf_pi ?_⟩
    have kk : ∀ k : Nat, ((2 ≤ k ∧ k ≤ 3) ∨ (12 ≤ k ∧ k ≤ 14) ∨ 28 < k) → k ≠ 67 → tf_up G1 67 0 r k = G k := fun k q1 q2 => by rw [tf_upo q2, hk k q1]
    have e42 : tf_up G1 67 0 r 42 = G 42 := kk 42 (by decide) (by decide)
    have e48 : tf_up G1 67 0 r 48 = G 48 := kk 48 (by decide) (by decide)
    have e49 : tf_up G1 67 0 r 49 = G 49 := kk 49 (by decide) (by decide)
    have d : mf_dom (G 11 0) (G 11 0 - 1) := ⟨by omega, by omega⟩
    refine tf_ri (sp_91 (by rw [e42, h4]; exact hlv) (by rw [e42, h3]; exact ⟨by omega, by omega⟩) (by rw [e42, e49, h4]; exact hj49)) fun v G2 hM => ?_
    rw [e42, e48, e49, h4, h3, (h5 _ d).1, (h5 _ d).2] at hM
    rcases hM with ⟨_, ev, e2⟩ | ⟨q, _⟩
    · have u : ∀ k : Nat, k ≠ 42 → k ≠ 67 → G2 k = G1 k := fun k q1 q4 => by rw [e2, tf_upo q1, tf_upo q1, tf_upo q1, tf_upo q1, tf_upo q4]
      have w : ∀ k : Nat, k ≠ 42 → k ≠ 67 → ((2 ≤ k ∧ k ≤ 3) ∨ (12 ≤ k ∧ k ≤ 14) ∨ 28 < k) → G2 k = G k := fun k q1 q4 q5 => by rw [u k q1 q4, hk k q5]
      have e67 : G2 67 0 = r := by rw [e2, tf_upo' (by decide), tf_upo' (by decide), tf_upo' (by decide), tf_upo' (by decide), tf_up_at]
      refine ⟨⟨(G 13 (G 11 0 - 1)).toNat, D, by omega, ?_, ?_, ?_, ?_, ?_, ?_, ?_⟩, ?_, fun _ => by rw [e67, er, ev]⟩
      · rw [w 46 (by decide) (by decide) (by decide), w 47 (by decide) (by decide) (by decide)]
        exact hX.low fun k hk => u k (by omega) (by omega)
      · rw [u 1 (by decide) (by decide), e1, w 2 (by decide) (by decide) (by decide), xC_eq (w 3 (by decide) (by decide) (by decide))]
        refine ⟨?_, fun t ht => ?_⟩
        · rw [e2, tf_up_eq, if_neg (by decide), tf_up_at]
        · rw [w 43 (by decide) (by decide) (by decide), w 44 (by decide) (by decide) (by decide), w 45 (by decide) (by decide) (by decide)]
          exact h2.2 t ⟨ht.1, by have := ht.2; omega⟩
      · rw [e2, tf_up_at]; omega
      · rw [u 11 (by decide) (by decide), e11, e2, tf_up_eq, if_neg (by decide), tf_up_eq, if_neg (by decide), tf_up_at]
      · rw [u 11 (by decide) (by decide), e11, w 12 (by decide) (by decide) (by decide), w 13 (by decide) (by decide) (by decide), w 48 (by decide) (by decide) (by decide), w 49 (by decide) (by decide) (by decide)]
        intro j hj
        exact h5 j ⟨hj.1, by have := hj.2; omega⟩
      · rw [e2, tf_up_eq, if_neg (by decide), tf_up_eq, if_neg (by decide), tf_up_eq, if_neg (by decide), tf_up_eq, if_neg (by decide), e42]; exact h6
      · rw [w 63 (by decide) (by decide) (by decide)]; exact h7
      · rw [e2]
        simp only [tf_upo, tf_upo', tf_up_eq, ne_eq, Nat.reduceEqDiff, not_false_eq_true, reduceCtorEq]
        rfl
    · omega
  · subst e1
    refine Or.inr (Or.inr (Or.inl ⟨e, tf_pi ?_⟩))
    refine tf_ri (sp_91 (by rw [h4]; exact hlv) (by rw [h3]; exact ⟨by omega, by omega⟩) (by rw [h4]; exact hj49)) fun v G2 hM => ?_
    rw [h4] at hM
    rcases hM with ⟨q, _⟩ | ⟨_, e2⟩
    · omega
    · have hm2 : mq G1 G2 := by rw [e2]; exact mq.th
      exact ⟨⟨m, D, by omega, h.bad hm2⟩, by rw [e2, tf_up_at], fun q => by omega⟩
end
