section
variable {l : Launch} {G G' G2 : tf_Sto} {m : Nat} {D D' : List Int} {y : Nat} {as : List tf_Av} {Po : tf_Out → tf_Sto → Prop} {L R : Int → Int}
theorem pr_15 (h : INV m D G) (hm : m ≤ 4999) {a : Int} : tf_RUN l 143 [tf_r 0, tf_i a, tf_r 67] G (tf_PI fun k G1 => tf_RUN l 125 [tf_r 42, tf_i a] G1 (tf_PI (pQ m k))) := by
  obtain ⟨b1, b2, b3, b4⟩ := h.base
  obtain ⟨h1, h2, h3, h4, h5, h6, h7⟩ := id h
  refine vc_143 ⟨⟨by decide, by decide⟩, w_i (sx_15 h.1) (fun r G' hx => tf_pi ?_) (fun hn => tf_pi ?_)⟩
  · obtain ⟨ha, hq, D1, x1, x2⟩ := hx
    have kk : ∀ k : Nat, (k < 15 ∨ (41 < k ∧ k < 68)) → k ≠ 67 → tf_up G' 67 0 r k = G k := fun k q1 q2 => by rw [tf_upo q2, hq k q1]
    have hMV : MV (G 1 0) (G 2) (xC G) m (tf_up G' 67 0 r) := (h.mvs hm).x fun k k1 k2 => kk k (by omega) (by omega)
    refine tf_ri (sp_125 (D := D) hMV (by rw [kk 42 (by decide) (by decide)]; exact h6) (by rw [kk 63 (by decide) (by decide)]; exact h7)) fun v G2 hM => ?_
    obtain ⟨f2, D2, d1, d2, d3⟩ := hM
    rw [kk 46 (by decide) (by decide), kk 47 (by decide) (by decide)] at d3
    rcases d3 with ⟨_, t, d3⟩ | ⟨d3, _⟩
    · obtain ⟨e1, e2⟩ := uq_text b4 b2 ha x2 d3
      subst e2
      have k2 : ∀ k : Nat, (k ≤ 41 ∨ 67 < k) → G2 k = G' k := fun k hk => by rw [f2.1 k (by omega) (by omega), tf_upo (by omega)]
      have k3 : ∀ k : Nat, k ≠ 42 → (k < 15 ∨ (41 < k ∧ k < 50)) → G2 k = G k := fun k q1 q2 => by rw [f2.1 k q1 (by omega), kk k (by omega) (by omega)]
      have kf : ∀ j : Int, j ≠ 0 → j ≠ 14 → j ≠ 18 → j ≠ 26 → j ≠ 30 → j ≠ 28 → G2 42 j = G 42 j := fun j q1 q2 q3 q4 q5 q6 => by rw [f2.2 j q1 q2 q3 q4 q5 q6, kk 42 (by decide) (by decide)]
      refine ⟨⟨m, D1, by omega, ?_, ?_, ?_, ?_, ?_, d1, d2⟩, t, fun _ => ?_⟩
      · rw [k3 46 (by decide) (by decide), k3 47 (by decide) (by decide)]
        exact x1.low k2
      · rw [k3 1 (by decide) (by decide), k3 2 (by decide) (by decide), xC_eq (k3 3 (by decide) (by decide))]
        exact h2.fr (kf 1 (by decide) (by decide) (by decide) (by decide) (by decide) (by decide)) (k3 43 (by decide) (by decide)) (k3 44 (by decide) (by decide)) (k3 45 (by decide) (by decide))
      · rw [kf 5 (by decide) (by decide) (by decide) (by decide) (by decide) (by decide)]; exact h3
      · rw [kf 8 (by decide) (by decide) (by decide) (by decide) (by decide) (by decide), k3 11 (by decide) (by decide)]; exact h4
      · rw [k3 11 (by decide) (by decide), k3 12 (by decide) (by decide), k3 13 (by decide) (by decide), k3 48 (by decide) (by decide), k3 49 (by decide) (by decide)]; exact h5
      · rw [f2.1 67 (by decide) (by decide), tf_up_at, e1]
    · exact absurd ha d3
  · refine tf_ri (sp_125 (D := D) (h.mvs hm) h6 h7) fun v G2 hM => ?_
    obtain ⟨f2, D2, d1, d2, d3⟩ := hM
    rcases d3 with ⟨d3, _⟩ | ⟨_, t, d3⟩
    · exact absurd d3 hn
    · subst d3
      have k3 : ∀ k : Nat, k ≠ 42 → (k < 50 ∨ 67 < k) → G2 k = G k := fun k q1 q2 => f2.1 k q1 (by omega)
      have kf : ∀ j : Int, j ≠ 0 → j ≠ 14 → j ≠ 18 → j ≠ 26 → j ≠ 30 → j ≠ 28 → G2 42 j = G 42 j := f2.2
      refine ⟨⟨m, D2, by omega, ?_, ?_, ?_, ?_, ?_, d1, d2⟩, t, fun q => by omega⟩
      · rw [k3 46 (by decide) (by decide), k3 47 (by decide) (by decide)]
        exact h1.low fun k hk => k3 k (by omega) (by omega)
      · rw [k3 1 (by decide) (by decide), k3 2 (by decide) (by decide), xC_eq (k3 3 (by decide) (by decide))]
        exact h2.fr (kf 1 (by decide) (by decide) (by decide) (by decide) (by decide) (by decide)) (k3 43 (by decide) (by decide)) (k3 44 (by decide) (by decide)) (k3 45 (by decide) (by decide))
      · rw [kf 5 (by decide) (by decide) (by decide) (by decide) (by decide) (by decide)]; exact h3
      · rw [kf 8 (by decide) (by decide) (by decide) (by decide) (by decide) (by decide), k3 11 (by decide) (by decide)]; exact h4
      · rw [k3 11 (by decide) (by decide), k3 12 (by decide) (by decide), k3 13 (by decide) (by decide), k3 48 (by decide) (by decide), k3 49 (by decide) (by decide)]; exact h5
theorem INV.out (h : INV m D G) : xout D G := by
  obtain ⟨g, mr, P, W, S, RT, DP, _, _, _, _, _, a6⟩ := h.1
  exact a6
theorem pr_16 (h : INV m D G) {k : Int} : tf_RUN l 144 [tf_r 0, tf_i k, tf_r 67] G (tf_PI fun c G1 => tf_RUN l 126 [tf_r 42, tf_i k] G1 (tf_PL (pQ m c))) := by
  obtain ⟨o1, o2, o3, o4, -⟩ := h.out
  obtain ⟨h1, h2, h3, h4, h5, h6, h7⟩ := id h
  have hs : 0 ≤ G 38 0 ∧ G 38 0 ≤ 200 := ⟨by omega, by omega⟩
  have es : G 42 28 = G 38 0 := by rw [h6, o1]
  refine vc_144 ⟨⟨by decide, by decide⟩, (sx_16 hs).mono ?_⟩
  rintro o G1 (⟨r, e, q, e1, er⟩ | ⟨e, q, e1⟩)
  · subst e1
    refine Or.inl ⟨r, e, ⟨by decide, by decide⟩, tf_pi ?_⟩
    have e28 : tf_up G1 67 0 r 42 = G1 42 := tf_upo (by decide)
    have e63 : tf_up G1 67 0 r 63 = G1 63 := tf_upo (by decide)
    refine tf_rl (sp_126 (by rw [e28, es]; exact hs)) fun v G2 hM => ?_
    rw [e28, e63, es] at hM
    rcases hM with ⟨_, e2, ev⟩ | ⟨q', _⟩
    · have hm2 : mq (tf_up G1 67 0 r) G2 := by rw [e2]; exact mq.th
      obtain ⟨i1, i2⟩ := h.ask h1 xq.refl hm2
      refine ⟨⟨m, D, by omega, i1⟩, by rw [e2, tf_up_at], fun _ => ?_⟩
      rw [i2, er, ev]
      refine off_congr ?_
      intro i i0 i1'
      show (if k + i < G1 38 0 then tf_land (G1 39 (k + i)) 255 else 0) = (if k + i < G1 38 0 then G1 63 (k + i) else 0)
      by_cases g : k + i < G1 38 0
      · rw [if_pos g, if_pos g]
        obtain ⟨j, hj⟩ := Int.eq_ofNat_of_zero_le (a := k + i) (by omega)
        rw [hj]
        have w1 := o3 j (by omega) (by omega)
        have w2 := h7 j (by omega) (by omega)
        have e3 : G1 39 (j : Int) = G1 63 (j : Int) := by
          rw [w1] at w2
          exact Option.some.inj w2
        have hin : G1 39 (j : Int) ∈ D := List.mem_of_getElem? w1
        rw [land255 (o4 _ hin), e3]
      · rw [if_neg g, if_neg g]
    · exact absurd q q'
  · subst e1
    refine Or.inr (Or.inr (Or.inr ⟨e, tf_pi ?_⟩))
    refine tf_rl (sp_126 (by rw [es]; exact hs)) fun v G2 hM => ?_
    rw [es] at hM
    rcases hM with ⟨q', _⟩ | ⟨_, e2⟩
    · exact absurd q' q
    · have hm2 : mq G1 G2 := by rw [e2]; exact mq.th
      exact ⟨⟨m, D, by omega, h.bad hm2⟩, by rw [e2, tf_up_at], fun q => by omega⟩
theorem pr_17 (h : INV m D G) (hm : m ≤ 4999) {w : Int} : tf_RUN l 145 [tf_r 0, tf_i w, tf_r 67] G (tf_PI fun k G1 => tf_RUN l 127 [tf_r 42, tf_i w] G1 (tf_PI (pQ m k))) := by
  obtain ⟨b1, b2, b3, b4⟩ := h.base
  obtain ⟨o1, o2, o3, o4, -⟩ := h.out
  obtain ⟨h1, h2, h3, h4, h5, h6, h7⟩ := id h
  refine vc_145 ⟨⟨by decide, by decide⟩, w_i (sx_17 h.1) (fun r G' hx => tf_pi ?_) (fun hn => tf_pi ?_)⟩
  · obtain ⟨x1, x2, x3, y0, y1, y2, y3, y4⟩ := hx
    refine tf_ri (sp_127 (h.x hm x3)) fun v G2 hM => ?_
    obtain ⟨f2, hM⟩ := hM
    obtain ⟨i1, i2⟩ := h.ask x2 x3 f2
    rcases hM with ⟨_, t, z0, z1, z2, z3, z4⟩ | ⟨q, _⟩
    · refine ⟨⟨m, D, by omega, i1⟩, t, fun _ => ?_⟩
      rw [i2]
      rw [x3.eqs] at z3
      have e42 : tf_up G' 67 0 r 42 = G 42 := by rw [tf_upo (by decide), x3.1 42 (by decide)]
      rw [e42] at z2 z4
      have hw : w = 0 ∨ w = 1 ∨ w = 2 ∨ w = 3 ∨ w = 4 := by omega
      rcases hw with hw | hw | hw | hw | hw
      · rw [y0 hw, z0 hw]
      · rw [y1 hw, z1 hw]
      · rw [y2 hw, z2 hw, h4]
      · exact uq_cnt (y3 hw) (z3 hw)
      · rw [y4 hw, z4 hw, h6, o1]
    · exact absurd x1 q
  · refine tf_ri (sp_127 (h.mvs hm)) fun v G2 hM => ?_
    obtain ⟨f2, hM⟩ := hM
    rcases hM with ⟨q, _⟩ | ⟨_, t⟩
    · exact absurd q hn
    · exact ⟨⟨m, D, by omega, h.bad f2⟩, t, fun q => by omega⟩
theorem pr_3 (h : INV m D G) (hm : m ≤ 4999) {a b : Int} : tf_RUN l 131 [tf_r 0, tf_i a, tf_i b, tf_r 67] G (tf_PI fun k G1 => tf_RUN l 88 [tf_r 42, tf_i a, tf_i b] G1 (tf_PI (pB m k))) := by
  obtain ⟨h1, h2, h3, h4, h5, h6, h7⟩ := id h
  refine vc_131 ⟨⟨by decide, by decide⟩, w_b (sx_3 h.1) (fun r G' hx => ?_) (fun r G' hx => tf_pi ?_) (fun hn => tf_pi ?_)⟩
  · rcases hx.2.2.2 with q | q
    · exact Or.inr q.1
    · exact Or.inl q.1
  · obtain ⟨x1, x2, x3, x4⟩ := hx
    have kk : ∀ k : Nat, 28 < k → k ≠ 67 → tf_up G' 67 0 r k = G k := fun k q1 q2 => by rw [tf_upo q2, x2 k (by omega)]
    have hMV : MV (G 1 0) (G 2) (xC G) m (tf_up G' 67 0 r) := (h.mvs hm).x fun k k1 k2 => kk k (by omega) (by omega)
    refine tf_ri (sp_88 hMV) fun v G2 hM => ?_
    obtain ⟨f2, hM⟩ := hM
    rw [kk 46 (by decide) (by decide), kk 47 (by decide) (by decide)] at hM
    have k2 : ∀ k : Nat, (k ≤ 41 ∨ 67 < k) → G2 k = G' k := fun k hk => by rw [f2.1 k (by omega) (by omega) (by omega) (by omega) (by omega), tf_upo (by omega)]
    have k3 : ∀ k : Nat, k ≠ 42 → ((1 ≤ k ∧ k ≤ 3) ∨ (11 ≤ k ∧ k ≤ 14) ∨ (28 < k ∧ k < 50) ∨ k = 63) → G2 k = G k := fun k q1 q2 => by rw [f2.1 k q1 (by omega) (by omega) (by omega) (by omega), tf_upo (by omega), x2 k (by omega)]
    have kf : ∀ j : Int, j ≠ 0 → j ≠ 14 → j ≠ 18 → j ≠ 26 → j ≠ 30 → G2 42 j = G 42 j := fun j q1 q2 q3 q4 q5 => by rw [f2.2 j q1 q2 q3 q4 q5, kk 42 (by decide) (by decide)]
    have hI : INV m D G2 := by
      refine ⟨?_, ?_, ?_, ?_, ?_, ?_, ?_⟩
      · rw [k3 46 (by decide) (by decide), k3 47 (by decide) (by decide)]
        exact x3.low k2
      · rw [k3 1 (by decide) (by decide), k3 2 (by decide) (by decide), xC_eq (k3 3 (by decide) (by decide))]
        exact h2.fr (kf 1 (by decide) (by decide) (by decide) (by decide) (by decide)) (k3 43 (by decide) (by decide)) (k3 44 (by decide) (by decide)) (k3 45 (by decide) (by decide))
      · rw [kf 5 (by decide) (by decide) (by decide) (by decide) (by decide)]; exact h3
      · rw [kf 8 (by decide) (by decide) (by decide) (by decide) (by decide), k3 11 (by decide) (by decide)]; exact h4
      · rw [k3 11 (by decide) (by decide), k3 12 (by decide) (by decide), k3 13 (by decide) (by decide), k3 48 (by decide) (by decide), k3 49 (by decide) (by decide)]; exact h5
      · rw [kf 28 (by decide) (by decide) (by decide) (by decide) (by decide)]; exact h6
      · rw [k3 63 (by decide) (by decide)]; exact h7
    have e67 : G2 67 0 = r := by rw [f2.1 67 (by decide) (by decide) (by decide) (by decide) (by decide), tf_up_at]
    rcases hM with ⟨_, t, hM⟩ | ⟨q, _⟩
    · refine ⟨⟨⟨m, D, by omega, hI⟩, t, fun _ => ?_⟩, fun _ => ?_⟩
      · rw [e67]
        rcases x4 with ⟨q, g⟩ | ⟨q, g⟩ <;> rcases hM with ⟨q', g'⟩ | ⟨q', g'⟩
        · omega
        · exact absurd g g'
        · exact absurd g' g
        · omega
      · rcases hM with q | q
        · exact Or.inr q.1
        · exact Or.inl q.1
    · exact absurd x1 q
  · refine tf_ri (sp_88 (h.mvs hm)) fun v G2 hM => ?_
    obtain ⟨f2, hM⟩ := hM
    rcases hM with ⟨q, _⟩ | ⟨_, t⟩
    · exact absurd q hn
    · exact ⟨⟨⟨m, D, by omega, h.bad f2⟩, t, fun q => by omega⟩, fun q => by omega⟩
end
