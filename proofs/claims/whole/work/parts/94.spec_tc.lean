def mD (D : List Int) (G : tf_Sto) : Prop := G 42 30 = (D.length : Int) ∧ wr (G 64) D
def mwf (G G' : tf_Sto) : Prop := (∀ k : Nat, k ≠ 42 → k ≠ 64 → G' k = G k) ∧ ∀ j, j ≠ 30 → G' 42 j = G 42 j
theorem mwf.trans {G G' G'' : tf_Sto} (h : mwf G G') (h' : mwf G' G'') : mwf G G'' := ⟨fun k k1 k2 => (h'.1 k k1 k2).trans (h.1 k k1 k2), fun j hj => (h'.2 j hj).trans (h.2 j hj)⟩
theorem mwf.kp {G G' : tf_Sto} (h : mwf G G') : mkp G G' := ⟨fun k k1 k2 => h.1 k (by omega) (by omega), fun j _ j2 => h.2 j j2⟩
section
variable {l : Launch} {G : tf_Sto} {D : List Int} {n c : Int} {hd : Int → Int} {ch : Int → Int → Int} {lst : Int → Int}
theorem sp_120 {v : Int} (hD : mD D G) (hl : D.length ≤ 100000) : tf_RUN l 120 [tf_r 42, tf_i v] G (tf_PV fun G' => mwf G G' ∧ mD (D ++ [v]) G') := by
  obtain ⟨d1, d2⟩ := hD
  refine vc_120 ⟨?_, ?_⟩
  · intro q
    refine ⟨⟨by omega, by omega⟩, tf_pv ?_⟩
    refine ⟨⟨fun k k1 k2 => ?_, fun j hj => ?_⟩, ?_, ?_⟩
    · rw [tf_upo k1]
    · rw [tf_up_eq, if_neg hj]
    · rw [tf_up_at, d1]; simp
    · rw [tf_upo (by decide)]
      exact wr_add d2 (fun _ _ => rfl) (fun q1 => by omega)
  · intro q
    refine ⟨⟨by omega, by omega⟩, ⟨by omega, by omega⟩, tf_pv ?_⟩
    refine ⟨⟨fun k k1 k2 => ?_, fun j hj => ?_⟩, ?_, ?_⟩
    · rw [tf_upo k1, tf_upo k2]
    · rw [tf_up_eq, if_neg hj, tf_upo' (by decide)]
    · rw [tf_up_at, d1]; simp
    · rw [tf_upo (by decide), d1]
      refine wr_add d2 (fun j hj => ?_) (fun _ => ?_)
      · rw [tf_up_eq, if_neg hj]
      · rw [tf_up_at]
theorem sp_121 {v : Int} (hD : mD D G) (hv : 0 ≤ v ∧ v ≤ 999) (hl : D.length ≤ 99990) : tf_RUN l 121 [tf_r 42, tf_i v] G (tf_PV fun G' => mwf G G' ∧ mD (D ++ tnum v) G') := by
  have last : ∀ {G1 : tf_Sto} {D1 : List Int}, mwf G G1 → mD D1 G1 → D1.length ≤ 99999 → D1 ++ [48 + v % 10] = D ++ tnum v →
      tf_RUN l 120 [tf_r 42, tf_i (48 + v % 10)] G1 (fun o G2 => o = .inl none ∧ (tf_PV fun G' => mwf G G' ∧ mD (D ++ tnum v) G') (.inl none) G2) := by
    intro G1 D1 hf h1 hl e
    refine tf_rv (sp_120 h1 (by omega)) fun G2 h2 => tf_pv ⟨hf.trans h2.1, ?_⟩
    rw [← e]
    exact h2.2
  refine vc_121 ⟨?_, ?_⟩
  · intro q
    refine ⟨?_, ?_⟩
    · intro q1
      refine ⟨⟨by omega, by omega⟩, ⟨by omega, by omega⟩, last ⟨fun _ _ _ => rfl, fun _ _ => rfl⟩ hD (by omega) ?_⟩
      unfold tnum
      rw [if_neg (by omega), if_neg (by omega)]
      rfl
    · intro q1
      refine ⟨⟨by omega, by omega⟩, ⟨by omega, by omega⟩, ⟨by omega, by omega⟩, ?_⟩
      refine tf_rv (sp_120 hD (by omega)) fun G2 h2 => ?_
      refine ⟨⟨by omega, by omega⟩, ⟨by omega, by omega⟩, last h2.1 h2.2 (by simp; omega) ?_⟩
      unfold tnum
      rw [if_neg (by omega), if_pos (by omega)]
      simp
  · intro q
    refine ⟨⟨by omega, by omega⟩, ⟨by omega, by omega⟩, ?_⟩
    refine tf_rv (sp_120 hD (by omega)) fun G2 h2 => ?_
    refine ⟨fun q1 => by omega, ?_⟩
    intro q1
    refine ⟨⟨by omega, by omega⟩, ⟨by omega, by omega⟩, ⟨by omega, by omega⟩, ?_⟩
    refine tf_rv (sp_120 h2.2 (by simp; omega)) fun G3 h3 => ?_
    refine ⟨⟨by omega, by omega⟩, ⟨by omega, by omega⟩, last (h2.1.trans h3.1) h3.2 (by simp; omega) ?_⟩
    unfold tnum
    rw [if_pos (by omega), if_pos (by omega)]
    simp
theorem tlst_one {f : Int → Int} {x v v' : Int} (h1 : tlst n f x v) (h2 : tlst n f x v') : v = v' := by
  obtain ⟨a1, a2, a3⟩ := h1
  obtain ⟨b1, b2, b3⟩ := h2
  rcases Int.lt_trichotomy v v' with q | q | q
  · exact absurd a2 (b3 v a1.1 q)
  · exact q
  · exact absurd b2 (a3 v' b1.1 q)
theorem sp_122 {x v : Int} (hn : n ≤ 300) (ht : tlst n (G 53) x v) (hl : ∀ t, mf_dom n t → G 53 t = x → G 43 t < 0) : tf_RUN l 122 [tf_r 42, tf_i x] G (tf_PI fun r G' => r = v ∧ G' = G) := by
  obtain ⟨a1, a2, a3⟩ := ht
  have loop : ∀ (d : Nat) (u : Int), 0 ≤ u → u + d = v → tf_AW l 122 none (tf_PI fun r G' => r = v ∧ G' = G) 2 [(0, tf_r 42), (1, tf_i x), (2, tf_i u)] [] (none, false) G := by
    intro d
    induction d with
    | zero =>
      intro u u0 ue
      have e : u = v := by omega
      subst e
      have := hl u a1 a2
      refine vc_122_2 ⟨⟨by omega, by have := a1.2; omega⟩, fun q => by omega, fun q => ⟨⟨by omega, by have := a1.2; omega⟩, fun _ => tf_pi ⟨rfl, rfl⟩, fun q => absurd a2 q⟩⟩
    | succ d ih =>
      intro u u0 ue
      have b := a1.2
      refine vc_122_2 ⟨⟨by omega, by omega⟩, fun q => ⟨⟨by omega, by omega⟩, ih (u + 1) (by omega) (by omega)⟩, fun q => ⟨⟨by omega, by omega⟩, fun q => absurd q (a3 u u0 (by omega)), fun _ => ⟨⟨by omega, by omega⟩, ih (u + 1) (by omega) (by omega)⟩⟩⟩
  exact vc_122 (loop v.toNat 0 (by omega) (by have := a1.1; omega))
def mlo (n c : Int) (hd lst : Int → Int) (G : tf_Sto) : Prop := ∀ x, mf_dom c x → mH hd G x = -1 → tlst n (G 53) x (lst x) ∧ ∀ t, mf_dom n t → G 53 t = x → G 43 t < 0
theorem mlo.kp {G' : tf_Sto} (h : mlo n c hd lst G) (hk : mkp G G') : mlo n c hd lst G' := by
  intro x hx q
  rw [hk.H] at q
  rw [hk.1 53 (by decide) (by decide), hk.1 43 (by decide) (by decide)]
  exact h x hx q
theorem sp_123 (hm : mtc n hd ch c G) (hl : mlo n c hd lst G) {x : Int} (hx : mf_dom c x) (hD : mD D G) (hL : D.length ≤ 99000) : tf_RUN l 123 [tf_r 42, tf_i x] G (tf_PV fun G' => mwf G G' ∧ mD (D ++ thead (mH hd G) lst x) G') := by
  have hn := hm.1.2.1
  have hb := hm.b hx
  have h55 := hm.2.2.2.1 x hx
  refine vc_123 ?_
  refine tf_re (sp_100 hm hx) ?_
  by_cases q : mH hd G x = -1
  · rw [if_pos q]
    refine ⟨fun q1 => by omega, fun _ => ?_⟩
    refine tf_rv (sp_120 hD (by omega)) fun G2 h2 => ⟨fun q1 => by omega, fun _ => ?_⟩
    obtain ⟨t1, t2⟩ := hl.kp h2.1.kp x hx (by rw [h2.1.kp.H]; exact q)
    have t3 := t1.1.1
    have t4 := t1.1.2
    refine tf_re (sp_122 hn.2 t1 t2) ?_
    refine tf_rv (sp_121 h2.2 ⟨by omega, by omega⟩ (by simp; omega)) fun G3 h3 => tf_pv ⟨h2.1.trans h3.1, ?_⟩
    have e : D ++ thead (mH hd G) lst x = D ++ [86] ++ tnum (lst x) := by
      unfold thead
      rw [if_pos q]
      simp
    rw [e]
    exact h3.2
  · rw [if_neg q]
    refine ⟨fun _ => ?_, fun q1 => absurd rfl q1⟩
    refine tf_rv (sp_120 hD (by omega)) fun G2 h2 => ⟨fun _ => ?_, fun q1 => absurd rfl q1⟩
    have k := h2.1.kp
    rw [k.1 55 (by decide) (by decide), k.1 50 (by decide) (by decide), k.1 51 (by decide) (by decide), k.1 43 (by decide) (by decide)]
    rcases mh_in hm.1.2.2.2 hm.1.2.2.1 h55 with ⟨g, _⟩ | ⟨g1, g2, g3, g4, g5⟩
    · exact absurd g q
    have g6 := (hm.1.b h55)
    have g7 := (hm.1.b g4).1
    have g8 := (hm.1.sz g4 (by rw [← g5]; exact g1)).1
    refine ⟨hb, g6.1, g6.2.1, g7, ?_⟩
    rw [g8, ← g5]
    refine tf_rv (sp_121 h2.2 ⟨by omega, by omega⟩ (by simp; omega)) fun G3 h3 => tf_pv ⟨h2.1.trans h3.1, ?_⟩
    have e : D ++ thead (mH hd G) lst x = D ++ [83] ++ tnum (mH hd G x / 4) := by
      unfold thead
      rw [if_neg q]
      simp
    rw [e]
    exact h3.2
/-- a tree under way: its head and the first of those below are written -/
def mI (c : Int) (h lst : Int → Int) (b : Int → Int → Int) (W K : Int → Int) (j : Int) (s : List Int) : Prop := mf_dom c (W j) ∧ (0 ≤ K j ∧ K j ≤ mf_w (h (W j))) ∧
  ∃ d, (∀ k, 0 ≤ k → k < mf_w (h (W j)) → tok h b d (b (W j) k)) ∧ s = tR (fun y => tS h lst b d y) (b (W j)) (mf_w (h (W j))) (mf_w (h (W j)) - K j).toNat
def mwg (G G' : tf_Sto) : Prop := (∀ k : Nat, k ≠ 42 → k ≠ 64 → k ≠ 65 → k ≠ 66 → G' k = G k) ∧ ∀ j, j ≠ 30 → G' 42 j = G 42 j
theorem mwg.trans {G G' G'' : tf_Sto} (h : mwg G G') (h' : mwg G' G'') : mwg G G'' := ⟨fun k k1 k2 k3 k4 => (h'.1 k k1 k2 k3 k4).trans (h.1 k k1 k2 k3 k4), fun j hj => (h'.2 j hj).trans (h.2 j hj)⟩
theorem mwg.kp {G G' : tf_Sto} (h : mwg G G') : mkp G G' := ⟨fun k k1 k2 => h.1 k (by omega) (by omega) (by omega) (by omega), fun j _ j2 => h.2 j j2⟩
theorem mwf.g {G G' : tf_Sto} (h : mwf G G') : mwg G G' := ⟨fun k k1 k2 _ _ => h.1 k k1 k2, h.2⟩
theorem mwg.u65 {G : tf_Sto} {i v : Int} : mwg G (tf_up G 65 i v) := ⟨fun k _ _ k1 _ => tf_upo k1, fun j _ => tf_upo' (by decide)⟩
theorem mwg.u66 {G : tf_Sto} {i v : Int} : mwg G (tf_up G 66 i v) := ⟨fun k _ _ _ k1 => tf_upo k1, fun j _ => tf_upo' (by decide)⟩
theorem mD.u65 {G : tf_Sto} {i v : Int} (h : mD D G) : mD D (tf_up G 65 i v) := ⟨by rw [tf_upo' (by decide)]; exact h.1, by rw [tf_upo (by decide)]; exact h.2⟩
theorem mD.u66 {G : tf_Sto} {i v : Int} (h : mD D G) : mD D (tf_up G 66 i v) := ⟨by rw [tf_upo' (by decide)]; exact h.1, by rw [tf_upo (by decide)]; exact h.2⟩
theorem sp_124 (hm : mtc n hd ch c G) (hl : mlo n c hd lst G) {top : Int} {d : Nat} (hx : mf_dom c top) (hk : tok (mH hd G) (mB ch G) d top) :
    tf_RUN l 124 [tf_r 42, tf_i top] G (tf_PV fun G' => mwg G G' ∧ ((G' 42 30 = ((tS (mH hd G) lst (mB ch G) d top).length : Int) ∧ (tS (mH hd G) lst (mB ch G) d top).length ≤ 200 ∧ wr (G' 64) (tS (mH hd G) lst (mB ch G) d top)) ∨
      (200 < G' 42 30 ∧ 200 < (tS (mH hd G) lst (mB ch G) d top).length))) := by
  generalize hS : tS (mH hd G) lst (mB ch G) d top = S
  have loop : ∀ (dd : Nat) (G1 : tf_Sto) (m : Nat) (D s : List Int), mwg G G1 → mD D G1 → stk (mI c (mH hd G) lst (mB ch G) (G1 65) (G1 66)) m s → D ++ s = S → 2 * m ≤ D.length → D.length ≤ 250 → 1000 + m ≤ dd + D.length →
      tf_AW l 124 none (tf_PV fun G' => mwg G G' ∧ ((G' 42 30 = (S.length : Int) ∧ S.length ≤ 200 ∧ wr (G' 64) S) ∨ (200 < G' 42 30 ∧ 200 < S.length))) 26 [(0, tf_r 42), (2, tf_i (m : Int))] [] (none, false) G1 := by
    intro dd
    induction dd with
    | zero => intro G1 m D s _ _ _ _ _ q1 q2; omega
    | succ dd ih =>
      intro G1 m D s hf hD hs e h2 h3 h4
      have d1 := hD.1
      refine vcc_124_26 ⟨fun q => ?_, fun q => ⟨fun q1 => ?_, fun q1 => ?_⟩⟩
      · have m0 : m = 0 := by omega
        subst m0
        have es : s = [] := hs
        have eD : D = S := by rw [← e, es]; simp
        subst eD
        refine tf_pv ⟨hf, ?_⟩
        by_cases g : D.length ≤ 200
        · exact Or.inl ⟨d1, g, hD.2⟩
        · exact Or.inr ⟨by omega, by omega⟩
      · refine tf_pv ⟨hf, Or.inr ⟨q1, ?_⟩⟩
        rw [← e]
        simp only [List.length_append]
        omega
      · cases m with
        | zero => omega
        | succ m =>
          obtain ⟨s1, s2, i1, i2, i3⟩ := hs
          have em1 : ((m + 1 : Nat) : Int) - 1 = (m : Int) := by omega
          rw [em1]
          obtain ⟨ix, ik, d', it, ie⟩ := i1
          have hm1 := hm.kp hf.kp
          have eH : mH hd G1 = mH hd G := hf.kp.H
          have eB : mB ch G1 = mB ch G := hf.kp.B
          have hw := mf_w_in (mH hd G (G1 65 (m : Int)))
          refine ⟨⟨by omega, by omega⟩, ⟨by omega, by omega⟩, ⟨by omega, by omega⟩, ⟨by omega, by omega⟩, ?_⟩
          refine tf_re (sp_99 hm1 ix) ?_
          rw [eH]
          refine ⟨fun q2 => ?_, fun q2 => ?_⟩
          · -- one more below
            have kl : G1 66 (m : Int) < mf_w (mH hd G (G1 65 (m : Int))) := by omega
            have next : ∀ (G2 : tf_Sto) (u : Int), mwf G1 G2 → mD (D ++ [u]) G2 → u = (if G1 66 (m : Int) = 0 then 40 else 44) →
                tf_AW l 124 none (tf_PV fun G' => mwg G G' ∧ ((G' 42 30 = (S.length : Int) ∧ S.length ≤ 200 ∧ wr (G' 64) S) ∨ (200 < G' 42 30 ∧ 200 < S.length))) 102 [(0, tf_r 42), (2, tf_i ((m + 1 : Nat) : Int)), (3, tf_i (G1 65 (m : Int))), (4, tf_i (G1 66 (m : Int)))] [] (none, false) G2 := by
              intro G2 u f2 hD2 hu
              have e65 : G2 65 = G1 65 := f2.1 65 (by decide) (by decide)
              have e66 : G2 66 = G1 66 := f2.1 66 (by decide) (by decide)
              refine vcc_124_102 ⟨⟨by omega, by omega⟩, ⟨by omega, by omega⟩, ⟨by omega, by omega⟩, ?_⟩
              rw [em1]
              have fa : mwg G (tf_up G2 66 (m : Int) (G1 66 (m : Int) + 1)) := (hf.trans f2.g).trans mwg.u66
              have ha := hm.kp fa.kp
              have eHa : mH hd (tf_up G2 66 (m : Int) (G1 66 (m : Int) + 1)) = mH hd G := fa.kp.H
              have eBa : mB ch (tf_up G2 66 (m : Int) (G1 66 (m : Int) + 1)) = mB ch G := fa.kp.B
              refine tf_re (sp_98 ha ix ik.1 (by rw [eHa]; exact kl)) ?_
              rw [eBa]
              refine ⟨⟨by omega, by omega⟩, ⟨by omega, by omega⟩, ⟨by omega, by omega⟩, ?_⟩
              rw [tf_up_at]
              generalize hy : mB ch G (G1 65 (m : Int)) (G1 66 (m : Int)) = y
              have hyd : mf_dom c y := by rw [← hy]; exact hm.B ix ik.1 kl
              generalize hG3 : tf_up (tf_up (tf_up G2 66 (m : Int) (G1 66 (m : Int) + 1)) 65 ((m + 1 : Nat) : Int) y) 66 ((m + 1 : Nat) : Int) 0 = G3
              have f3 : mwg G G3 := by rw [← hG3]; exact (fa.trans mwg.u65).trans mwg.u66
              have hD3 : mD (D ++ [u]) G3 := by rw [← hG3]; exact ((hD2.u66).u65).u66
              have k65 : G3 65 ((m + 1 : Nat) : Int) = y := by rw [← hG3, tf_upo (by decide), tf_up_at]
              have k66 : G3 66 ((m + 1 : Nat) : Int) = 0 := by rw [← hG3, tf_up_at]
              have o65 : ∀ j : Int, j ≠ ((m + 1 : Nat) : Int) → G3 65 j = G1 65 j := by
                intro j hj
                rw [← hG3, tf_upo (by decide), tf_up_eq, if_neg hj, tf_upo' (by decide), e65]
              have o66 : ∀ j : Int, j ≠ ((m + 1 : Nat) : Int) → j ≠ (m : Int) → G3 66 j = G1 66 j := by
                intro j hj hj'
                rw [← hG3, tf_up_eq, if_neg hj, tf_upo' (by decide), tf_up_eq, if_neg hj', e66]
              have p66 : G3 66 (m : Int) = G1 66 (m : Int) + 1 := by
                rw [← hG3, tf_up_eq, if_neg (by omega), tf_upo' (by decide), tf_up_at]
              have eH3 : mH hd G3 = mH hd G := f3.kp.H
              refine tf_rv (sp_123 (hm.kp f3.kp) (hl.kp f3.kp) hyd hD3 (by simp; omega)) fun G4 h4' => ⟨⟨by omega, by omega⟩, ?_⟩
              obtain ⟨f4, hD4⟩ := h4'
              rw [eH3] at hD4
              have e65' : G4 65 = G3 65 := f4.1 65 (by decide) (by decide)
              have e66' : G4 66 = G3 66 := f4.1 66 (by decide) (by decide)
              have hty := it _ ik.1 kl
              rw [hy] at hty
              obtain ⟨d2, rfl⟩ : ∃ d2, d' = d2 + 1 := by
                cases d' with
                | zero => exact False.elim hty
                | succ d2 => exact ⟨d2, rfl⟩
              have hl4 := thead_len (mH hd G) lst y
              have em2 : ((m + 1 : Nat) : Int) + 1 = ((m + 1 + 1 : Nat) : Int) := by omega
              rw [em2]
              refine ih G4 (m + 1 + 1) _ (tR (fun z => tS (mH hd G) lst (mB ch G) d2 z) (mB ch G y) (mf_w (mH hd G y)) (mf_w (mH hd G y)).toNat ++ (tR (fun z => tS (mH hd G) lst (mB ch G) (d2 + 1) z) (mB ch G (G1 65 (m : Int))) (mf_w (mH hd G (G1 65 (m : Int)))) (mf_w (mH hd G (G1 65 (m : Int))) - (G1 66 (m : Int) + 1)).toNat ++ s2)) (f3.trans f4.g) hD4 ?_ ?_ ?_ ?_ ?_
              · rw [e65', e66']
                refine ⟨_, _, ?_, ⟨_, _, ?_, ?_, rfl⟩, rfl⟩
                · unfold mI
                  rw [k65, k66]
                  refine ⟨hyd, ⟨by omega, (mf_w_in _).1⟩, d2, hty, ?_⟩
                  rw [show mf_w (mH hd G y) - 0 = mf_w (mH hd G y) by omega]
                · unfold mI
                  rw [o65 _ (by omega), p66]
                  exact ⟨ix, ⟨by omega, by omega⟩, d2 + 1, it, rfl⟩
                · refine stk_congr ?_ i2
                  intro j j0 j1 s hs
                  unfold mI at hs ⊢
                  rw [o65 _ (by omega), o66 _ (by omega) (by omega)]
                  exact hs
              · have st := tR_step (s := fun z => tS (mH hd G) lst (mB ch G) (d2 + 1) z) (bx := mB ch G (G1 65 (m : Int))) (w := mf_w (mH hd G (G1 65 (m : Int)))) (j := mf_w (mH hd G (G1 65 (m : Int))) - (G1 66 (m : Int) + 1)) (by omega)
                rw [show mf_w (mH hd G (G1 65 (m : Int))) - (G1 66 (m : Int) + 1) + 1 = mf_w (mH hd G (G1 65 (m : Int))) - G1 66 (m : Int) by omega, show mf_w (mH hd G (G1 65 (m : Int))) - (mf_w (mH hd G (G1 65 (m : Int))) - G1 66 (m : Int)) = G1 66 (m : Int) by omega, hy] at st
                have eu : (if mf_w (mH hd G (G1 65 (m : Int))) - G1 66 (m : Int) = mf_w (mH hd G (G1 65 (m : Int))) then (40 : Int) else 44) = u := by
                  rw [hu]
                  by_cases g : G1 66 (m : Int) = 0
                  · rw [if_pos g, if_pos (by omega)]
                  · rw [if_neg g, if_neg (by omega)]
                rw [eu] at st
                rw [← e, i3, ie, st]
                simp only [tS, List.append_assoc, List.cons_append, List.nil_append]
              · simp only [List.length_append, List.length_cons, List.length_nil]
                omega
              · simp only [List.length_append, List.length_cons, List.length_nil]
                omega
              · simp only [List.length_append, List.length_cons, List.length_nil]
                omega
            refine vcc_124_86 ⟨fun q3 => ?_, fun q3 => ?_⟩
            · refine tf_rv (sp_120 hD (by omega)) fun G2 h2' => next G2 44 h2'.1 h2'.2 (by rw [if_neg q3])
            · refine tf_rv (sp_120 hD (by omega)) fun G2 h2' => next G2 40 h2'.1 h2'.2 (by rw [if_pos q3])
          · -- all below are written
            have em2 : ((m + 1 : Nat) : Int) + (-1) = (m : Int) := by omega
            rw [q2, show mf_w (mH hd G (G1 65 (m : Int))) - mf_w (mH hd G (G1 65 (m : Int))) = 0 by omega] at ie
            refine vcc_124_69 ⟨fun q3 => ⟨⟨by omega, by omega⟩, ?_⟩, fun q3 => ?_⟩
            · rw [em2]
              refine ih G1 m D s2 hf hD i2 ?_ (by omega) (by omega) (by omega)
              rw [← e, i3, ie]
              simp only [tR, Int.toNat_zero]
              rw [if_neg (by omega)]
              rfl
            · refine tf_rv (sp_120 hD (by omega)) fun G2 h2' => ⟨⟨by omega, by omega⟩, ?_⟩
              rw [em2]
              have e65 : G2 65 = G1 65 := h2'.1.1 65 (by decide) (by decide)
              have e66 : G2 66 = G1 66 := h2'.1.1 66 (by decide) (by decide)
              refine ih G2 m (D ++ [41]) s2 (hf.trans h2'.1.g) h2'.2 (by rw [e65, e66]; exact i2) ?_ (by simp; omega) (by simp; omega) (by simp; omega)
              rw [← e, i3, ie]
              simp only [tR, Int.toNat_zero]
              rw [if_pos (by omega)]
              simp
  refine vcc_124 ⟨⟨by decide, by decide⟩, ⟨by decide, by decide⟩, ?_⟩
  generalize hG3 : tf_up (tf_up (tf_up G 42 30 0) 65 0 top) 66 0 0 = G3
  have f3 : mwg G G3 := by
    rw [← hG3]
    have g : mwg G (tf_up G 42 30 0) := ⟨fun k k1 _ _ _ => tf_upo k1, fun j hj => by rw [tf_up_eq, if_neg hj]⟩
    exact (g.trans mwg.u65).trans mwg.u66
  have hD3 : mD [] G3 := by
    rw [← hG3]
    exact mD.u66 (mD.u65 ⟨by rw [tf_up_at]; rfl, wr_nil⟩)
  have k65 : G3 65 0 = top := by rw [← hG3, tf_upo (by decide), tf_up_at]
  have k66 : G3 66 0 = 0 := by rw [← hG3, tf_up_at]
  refine tf_rv (sp_123 (hm.kp f3.kp) (hl.kp f3.kp) hx hD3 (by simp)) fun G4 h4 => ?_
  obtain ⟨f4, hD4⟩ := h4
  rw [show mH hd G3 = mH hd G from f3.kp.H] at hD4
  have e65' : G4 65 = G3 65 := f4.1 65 (by decide) (by decide)
  have e66' : G4 66 = G3 66 := f4.1 66 (by decide) (by decide)
  obtain ⟨d2, rfl⟩ : ∃ d2, d = d2 + 1 := by
    cases d with
    | zero => exact False.elim hk
    | succ d2 => exact ⟨d2, rfl⟩
  have hl4 := thead_len (mH hd G) lst top
  refine loop 1001 G4 1 _ (tR (fun z => tS (mH hd G) lst (mB ch G) d2 z) (mB ch G top) (mf_w (mH hd G top)) (mf_w (mH hd G top)).toNat ++ []) (f3.trans f4.g) hD4 ?_ ?_ ?_ ?_ ?_
  · rw [e65', e66']
    refine ⟨_, _, ?_, rfl, rfl⟩
    unfold mI
    rw [show ((0 : Nat) : Int) = 0 from rfl, k65, k66]
    refine ⟨hx, ⟨by omega, (mf_w_in _).1⟩, d2, hk, ?_⟩
    rw [show mf_w (mH hd G top) - 0 = mf_w (mH hd G top) by omega]
  · rw [← hS]
    simp only [tS, List.append_nil, List.nil_append]
  · simp only [List.nil_append]
    omega
  · simp only [List.nil_append]
    omega
  · simp only [List.nil_append]
    omega
end
