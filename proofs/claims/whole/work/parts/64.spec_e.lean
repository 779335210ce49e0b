-- SPEC E: unify, whole
def xpre (g0 : Int) (mr0 mr : Int → Int) (P0 W0 S0 RT0 DP0 P W S RT DP : Int → Int → Int) : Prop :=
  (∀ i, i ≤ g0 → P i = P0 i ∧ W i = W0 i ∧ S i = S0 i ∧ RT i = RT0 i ∧ DP i = DP0 i) ∧ ∀ i, 0 ≤ i → i < g0 → mr i = mr0 i
theorem xpre.refl {g0 : Int} {mr : Int → Int} {P W S RT DP : Int → Int → Int} : xpre g0 mr mr P W S RT DP P W S RT DP := ⟨fun _ _ => ⟨rfl, rfl, rfl, rfl, rfl⟩, fun _ _ _ => rfl⟩
theorem xpre.ext {g0 g a : Int} {mr0 mr p w s rt dp : Int → Int} {P0 W0 S0 RT0 DP0 P W S RT DP : Int → Int → Int} (h : xpre g0 mr0 mr P0 W0 S0 RT0 DP0 P W S RT DP) (hg : g0 ≤ g) :
    xpre g0 mr0 (xmr mr g a) P0 W0 S0 RT0 DP0 (xx P g p) (xx W g w) (xx S g s) (xx RT g rt) (xx DP g dp) := by
  refine ⟨fun i hi => ?_, fun i h0 h1 => ?_⟩
  · have : i ≤ g := by omega
    rw [xx_le this, xx_le this, xx_le this, xx_le this, xx_le this]
    exact h.1 i hi
  · unfold xmr
    rw [if_neg (by omega)]
    exact h.2 i h0 h1
section
variable {l : Launch} {G : tf_Sto} {n g0 : Int} {hd mr0 : Int → Int} {ch : Int → Int → Int} {P0 W0 S0 RT0 DP0 : Int → Int → Int} {E : List (Int × Int)}
set_option maxHeartbeats 2000000 in
theorem sp_30 (H0 : xh n hd g0 mr0 P0 W0 S0 RT0 DP0) (hg0 : 0 ≤ g0) (hn : 0 ≤ n ∧ n ≤ 300) (hwf : mf_wf n hd ch) (hu0 : xu n g0 mr0 P0 W0 S0 G) (he : ∀ t, mf_dom n t → G 2 t = hd t) (hc : ∀ t k, G 3 (t * 3 + k) = ch t k)
    (hE : ∀ q ∈ E, mf_dom n q.1 ∧ mf_dom n q.2) (hr : mf_rep n hd ch E (RT0 g0) (S0 g0)) (hcon : mf_con n hd ch E) {a b : Int} (ha : mf_dom n a) (hb : mf_dom n b) :
    tf_RUN l 30 [tf_r 4, tf_i a, tf_i b] G (tf_PI fun r G' => xfr G G' ∧ ∃ (g : Int) (mr : Int → Int) (P W S RT DP : Int → Int → Int), g0 ≤ g ∧ xh n hd g mr P W S RT DP ∧ xu n g mr P W S G' ∧ xpre g0 mr0 mr P0 W0 S0 RT0 DP0 P W S RT DP ∧
      ((r = 1 ∧ mf_rep n hd ch (E ++ [(a, b)]) (RT g) (S g) ∧ mf_con n hd ch (E ++ [(a, b)])) ∨ (r = 0 ∧ ¬ mf_con n hd ch (E ++ [(a, b)])))) := by
  have hhd : ∀ t, mf_dom n t → hd t = -1 ∨ 0 ≤ hd t := fun t ht => by
    rcases (hwf t ht).1 with q | q
    · exact Or.inl q
    · exact Or.inr q.1
  have hE' : ∀ q ∈ E ++ [(a, b)], mf_dom n q.1 ∧ mf_dom n q.2 := by
    intro q hq
    rcases List.mem_append.mp hq with h | h
    · exact hE q h
    · have : q = (a, b) := by simpa using h
      rw [this]; exact ⟨ha, hb⟩
  refine vc_30 ?_
  have e48 : tf_up G 4 8 0 4 8 = 0 := tf_up_at
  refine tf_rv (sp_32 (by rw [e48]; omega)) ?_
  rintro _ rfl
  rw [e48]
  have key : ∀ (d : Nat) (G1 : tf_Sto) (at_ : Int), at_ + d = 902 → 0 ≤ at_ → at_ ≤ G1 4 8 → xfr G G1 →
      (∃ (g : Int) (mr : Int → Int) (P W S RT DP : Int → Int → Int), g0 ≤ g ∧ xh n hd g mr P W S RT DP ∧ xu n g mr P W S G1 ∧ xpre g0 mr0 mr P0 W0 S0 RT0 DP0 P W S RT DP ∧
        mf_inv n hd ch (E ++ [(a, b)]) (RT g) (S g) (fun u v => ∃ j, at_ ≤ j ∧ j < G1 4 8 ∧ u = G1 9 j ∧ v = G1 10 j) ∧ G1 4 8 ≤ 1 + 3 * (g - g0)) →
      tf_AW l 30 none (tf_PI fun r G' => xfr G G' ∧ ∃ (g : Int) (mr : Int → Int) (P W S RT DP : Int → Int → Int), g0 ≤ g ∧ xh n hd g mr P W S RT DP ∧ xu n g mr P W S G' ∧ xpre g0 mr0 mr P0 W0 S0 RT0 DP0 P W S RT DP ∧
      ((r = 1 ∧ mf_rep n hd ch (E ++ [(a, b)]) (RT g) (S g) ∧ mf_con n hd ch (E ++ [(a, b)])) ∨ (r = 0 ∧ ¬ mf_con n hd ch (E ++ [(a, b)])))) 13 [(0, tf_r 4), (3, tf_i at_)] [] (none, false) G1 := by
    intro d
    induction d with
    | zero =>
      intro G1 at_ e1 h0 h1 hf ⟨g, mr, P, W, S, RT, DP, hg, H, hu, hp, I, hw⟩
      exfalso
      have := xo_len (xh_at H hn.1 hhd (i := g) (by omega) (Int.le_refl g))
      omega
    | succ d ih =>
      intro G1 at_ e1 h0 h1 hf ⟨g, mr, P, W, S, RT, DP, hg, H, hu, hp, I, hw⟩
      have ho := xh_at H hn.1 hhd (i := g) (by omega) (Int.le_refl g)
      have hlen := xo_len ho
      have he1 : ∀ t, mf_dom n t → G1 2 t = hd t := fun t ht => by rw [hf 2 (by decide)]; exact he t ht
      have hc1 : ∀ t k, G1 3 (t * 3 + k) = ch t k := fun t k => by rw [hf 3 (by decide)]; exact hc t k
      refine vc_30_13 ⟨fun z => ⟨by decide, tf_pi ⟨hf, g, mr, P, W, S, RT, DP, hg, H, hu, hp, Or.inl ⟨rfl, ?_⟩⟩⟩, fun z => ⟨fun z' => by omega, fun z' => ⟨by omega, ?_⟩⟩⟩
      · exact mf_done hwf hE' I (fun u v ⟨j, j0, j1, _⟩ => by omega)
      · have hQ : ∃ j, at_ ≤ j ∧ j < G1 4 8 ∧ G1 9 at_ = G1 9 j ∧ G1 10 at_ = G1 10 j := ⟨at_, Int.le_refl _, z, rfl, rfl⟩
        obtain ⟨d1, d2, hT⟩ := I.2.1 _ _ hQ
        have hop := xo_congr (p' := G1 5) ho (fun t ht => (hu.2.1 t ht).1)
        have q1 := (ho.1 _ d1)
        have q2 := (ho.1 _ d2)
        by_cases hlen' : g < 300
        case neg =>
          -- 300 merges of 300 terms: there is no class left
          exfalso
          have c1 := ho.2.2
          have c2 := mf_cnt_one (n := n.toNat) (a := RT g (G1 9 at_)) q1.2.1.1 (mf_dom_nat q1.2.1)
          have c3 := mf_cnt_le (P := fun t => t = RT g (G1 9 at_)) (Q := fun t => RT g t = t) (n := n.toNat) (fun t _ _ q => by rw [q]; exact q1.2.2.2.2.1)
          omega
        refine tf_re (sp_28 hop hn.2 hlen' d1) ⟨by omega, tf_re (sp_28 hop hn.2 hlen' d2) ?_⟩
        refine tf_ri (sp_33 H (by omega) hn hhd hu he1 q1.2.1 q2.2.1 q1.2.2.2.2.1 q2.2.2.2.2.1 ⟨by omega, fun hne => ?_⟩) ?_
        · have := xo_two ho q1.2.1 q2.2.1 hne q1.2.2.2.2.1 q2.2.2.2.2.1
          omega
        rintro r G2 (⟨c1, rfl, rfl⟩ | ⟨c1, c2, c3, c4, rfl, rfl⟩ | ⟨c1, c2, rfl, c3, c4, c5⟩)
        · refine ⟨fun _ => ⟨by omega, ih _ _ (by omega) (by omega) (by omega) hf ⟨g, mr, P, W, S, RT, DP, hg, H, hu, hp, ?_, hw⟩⟩, fun q => by omega⟩
          refine mf_same I hQ c1 (fun u v ⟨j, j0, j1, e2, e3⟩ => ?_) (fun u v ⟨j, j0, j1, e2, e3⟩ => ⟨j, by omega, j1, e2, e3⟩)
          by_cases q : j = at_
          · subst q; exact Or.inl ⟨e2, e3⟩
          · exact Or.inr ⟨j, by omega, j1, e2, e3⟩
        · refine ⟨fun q => by omega, fun _ => ⟨by decide, tf_pi ⟨hf, g, mr, P, W, S, RT, DP, hg, H, hu, hp, Or.inr ⟨rfl, ?_⟩⟩⟩⟩
          exact mf_fail I hQ c2 c3 c4
        · obtain ⟨x, y, hxy, k1, k2⟩ := c4
          have dx : mf_dom n x ∧ mf_dom n y ∧ x ≠ y ∧ RT g x = x ∧ RT g y = y := by
            rcases hxy with ⟨rfl, rfl⟩ | ⟨rfl, rfl⟩
            · exact ⟨q1.2.1, q2.2.1, c1, q1.2.2.2.2.1, q2.2.2.2.2.1⟩
            · exact ⟨q2.2.1, q1.2.1, Ne.symm c1, q2.2.2.2.2.1, q1.2.2.2.2.1⟩
          obtain ⟨x1, x2, x3, x4, x5⟩ := dx
          have H' := xh_ext H (by omega) x1 x2 x3 x4 x5 k1
          -- what waits now
          have hwt : ∃ m, 0 ≤ m ∧ m ≤ 3 ∧ G2 4 8 = G1 4 8 + m ∧ (∀ j, j < G1 4 8 → G2 9 j = G1 9 j ∧ G2 10 j = G1 10 j) ∧
              (∀ k, 0 ≤ k → k < m → S g (RT g (G1 9 at_)) ≠ -1 ∧ S g (RT g (G1 10 at_)) ≠ -1 ∧ k < hd (S g (RT g (G1 9 at_))) % 4 ∧ G2 9 (G1 4 8 + k) = ch (S g (RT g (G1 9 at_))) k ∧ G2 10 (G1 4 8 + k) = ch (S g (RT g (G1 10 at_))) k) ∧
              (S g (RT g (G1 9 at_)) ≠ -1 → S g (RT g (G1 10 at_)) ≠ -1 → m = hd (S g (RT g (G1 9 at_))) % 4) := by
            rcases c5 with ⟨s1, s2, w1, w2, w3⟩ | ⟨s1, w1, w2, w3⟩
            · have hd0 : 0 ≤ hd (S g (RT g (G1 9 at_))) := by
                rcases (ho.2.1 _ d1).2.2 with q | q
                · exact absurd q.1 s1
                · exact q.2.2
              have em : mf_w (hd (S g (RT g (G1 9 at_)))) = hd (S g (RT g (G1 9 at_))) % 4 := by
                unfold mf_w
                rw [if_neg (by omega)]
              rw [em] at w1 w3
              refine ⟨_, by omega, by omega, w1, w2, fun k k0 k1 => ⟨s1, s2, k1, ?_, ?_⟩, fun _ _ => rfl⟩
              · rw [(w3 k k0 k1).1]; exact hc1 _ _
              · rw [(w3 k k0 k1).2]; exact hc1 _ _
            · refine ⟨0, by omega, by omega, w1, w2, fun k k0 k1 => by omega, fun z1 z2 => ?_⟩
              rcases s1 with s1 | s1
              · exact absurd s1 z1
              · exact absurd s1 z2
          obtain ⟨m, m0, m1, m2, m3, m4, m5⟩ := hwt
          refine ⟨fun _ => ⟨by omega, ih _ _ (by omega) (by omega) (by omega) (hf.trans c3) ⟨g + 1, _, _, _, _, _, _, by omega, H', k2, hp.ext (by omega), ?_, by omega⟩⟩, fun q => by omega⟩
          rw [xx_new, xx_new]
          refine mf_merge I hQ c1 (keep := y) (gone := x) ?_ c2 (fun t ht => rfl) ?_ ?_ ?_ ?_ ?_ hwf
          · rcases hxy with ⟨rfl, rfl⟩ | ⟨rfl, rfl⟩
            · exact Or.inr ⟨rfl, rfl⟩
            · exact Or.inl ⟨rfl, rfl⟩
          · rw [(k1 y x2).2.2, if_pos rfl]
          · intro r hr _ z1 z2
            rw [(k1 r hr).2.2, if_neg z1]
          · intro u v ⟨j, j0, j1, e2, e3⟩
            by_cases q : j = at_
            · subst q; exact Or.inl ⟨e2, e3⟩
            · exact Or.inr ⟨j, by omega, by omega, by rw [(m3 j j1).1]; exact e2, by rw [(m3 j j1).2]; exact e3⟩
          · intro u v ⟨j, j0, j1, e2, e3⟩
            by_cases q : j < G1 4 8
            · exact Or.inl ⟨j, by omega, q, by rw [← (m3 j q).1]; exact e2, by rw [← (m3 j q).2]; exact e3⟩
            · right
              obtain ⟨n1, n2, n3, n4, n5⟩ := m4 (j - G1 4 8) (by omega) (by omega)
              have ej : G1 4 8 + (j - G1 4 8) = j := by omega
              rw [ej] at n4 n5
              exact ⟨n1, n2, j - G1 4 8, by omega, n3, by rw [e2, n4], by rw [e3, n5]⟩
          · intro z1 z2 k k0 k1
            have em := m5 z1 z2
            obtain ⟨n1, n2, n3, n4, n5⟩ := m4 k k0 (by omega)
            exact ⟨G1 4 8 + k, by omega, by omega, n4.symm, n5.symm⟩
  refine key 902 _ 0 (by omega) (by omega) ?_ ?_ ⟨g0, mr0, P0, W0, S0, RT0, DP0, Int.le_refl _, H0, ?_, xpre.refl, ?_, ?_⟩
  · rw [tf_up_at]; omega
  · exact (((xfr.refl.up (by omega)).up (by omega)).up (by omega)).up (by omega)
  · refine ⟨?_, fun t ht => ?_, fun i h0 h1 => ?_⟩
    · simp only [tf_upo, tf_upo', tf_up_eq, ne_eq, Nat.reduceEqDiff, not_false_eq_true, reduceCtorEq]
      rw [if_neg (by decide), if_neg (by decide)]
      exact hu0.1
    · simp only [tf_upo, tf_upo', tf_up_eq, ne_eq, Nat.reduceEqDiff, not_false_eq_true, reduceCtorEq]
      exact hu0.2.1 t ht
    · simp only [tf_upo, tf_upo', tf_up_eq, ne_eq, Nat.reduceEqDiff, not_false_eq_true, reduceCtorEq]
      exact hu0.2.2 i h0 h1
  · have I := mf_begin hwf hE hr hcon ha hb
    have eq : (fun u v => ∃ j, 0 ≤ j ∧ j < tf_up (tf_up (tf_up (tf_up G 4 8 0) 9 0 a) 10 0 b) 4 8 (0 + 1) 4 8 ∧ u = tf_up (tf_up (tf_up (tf_up G 4 8 0) 9 0 a) 10 0 b) 4 8 (0 + 1) 9 j ∧ v = tf_up (tf_up (tf_up (tf_up G 4 8 0) 9 0 a) 10 0 b) 4 8 (0 + 1) 10 j) = (fun u v => u = a ∧ v = b) := by
      funext u v
      apply propext
      rw [tf_up_at]
      simp only [tf_upo, tf_upo', tf_up_eq, ne_eq, Nat.reduceEqDiff, not_false_eq_true, reduceCtorEq]
      constructor
      · rintro ⟨j, j0, j1, e1, e2⟩
        have : j = 0 := by omega
        rw [if_pos this] at e1 e2
        exact ⟨e1, e2⟩
      · rintro ⟨e1, e2⟩
        exact ⟨0, by omega, by omega, by rw [if_pos rfl]; exact e1, by rw [if_pos rfl]; exact e2⟩
    rw [eq]
    exact I
  · rw [tf_up_at]; omega
end
