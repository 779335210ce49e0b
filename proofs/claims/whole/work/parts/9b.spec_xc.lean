theorem land255 {x : Int} (h : 0 ≤ x ∧ x ≤ 127) : tf_land x 255 = x := by
  have main : ∀ i : Fin 128, tf_land (i.val : Int) 255 = (i.val : Int) := by decide
  have := main ⟨x.toNat, by omega⟩
  have e : ((x.toNat : Nat) : Int) = x := by omega
  simp only [e] at this
  exact this
section
variable {l : Launch} {G G' : tf_Sto} {n : Int} {hd : Int → Int} {ch : Int → Int → Int} {L R : Int → Int} {m : Nat} {D D' : List Int} {g : Int} {mr : Int → Int} {P W S RT DP : Int → Int → Int}
def xqt (G G' : tf_Sto) : Prop := ∀ k : Nat, (k < 15 ∨ (41 < k ∧ k < 68)) → G' k = G k
theorem xq.t (h : xq G G') : xqt G G' := fun k hk => h.1 k (by omega)
theorem XD.w (h : XD L R m D g mr P W S RT DP G) (hk : ∀ k : Nat, (k < 38 ∨ 41 < k) → G' k = G k) (ho : xout D' G') : XD L R m D' g mr P W S RT DP G' := by
  obtain ⟨a1, a2, a3, a4, a5, a6⟩ := h
  have hf : G' 24 8 ≠ 0 → xFV (G 1 0) (G 2) (xC G) (RT g) (S g) G' := by
    rw [hk 24 (by decide)]
    exact fun q => (a5 q).fr fun k _ k2 => hk k (by omega)
  unfold XD xu
  rw [xC_eq (hk 3 (by decide)), hk 0 (by decide), hk 1 (by decide), hk 2 (by decide), hk 4 (by decide), hk 5 (by decide), hk 6 (by decide), hk 7 (by decide), hk 8 (by decide), hk 11 (by decide), hk 12 (by decide), hk 13 (by decide), hk 14 (by decide)]
  exact ⟨a1, a2, a3, a4, hf, ho⟩
theorem sx_15 (h : XI L R m D G) {a : Int} : tf_RUN l 15 [tf_r 0, tf_i a] G (tf_XI (mf_dom (G 1 0) a) (fun r G' => mf_dom (G 1 0) a ∧ xqt G G' ∧ ∃ D' : List Int, XI L R m D' G' ∧ tA (G 1 0) (G 2) (xC G) (mf_E L R m) (Qtext (G 1 0) a D D' r)) G) := by
  obtain ⟨g, mr, P, W, S, RT, DP, h⟩ := h
  refine vc_15 ⟨⟨by decide, by decide⟩, tf_r20 (fun ha => ?_) (fun ha => Or.inr ⟨rfl, ha, rfl⟩)⟩
  refine tf_ri (sx_51 h ha) fun r1 G1 h1 => ?_
  obtain ⟨e1, q1, t1⟩ := h1
  refine tf_re sp_42 ?_
  subst e1
  have hd1 := t1.dom ha
  have hf := t1.2.2.1.fin hd1
  have h1 := h.qT q1 t1
  refine ⟨fun q => Or.inl ⟨-1, rfl, ha, q1.t, D, h1.X, t1.an (Or.inl ⟨fun g => ?_, rfl, rfl⟩)⟩, fun q => ?_⟩
  · rw [if_pos (hf.2 g)] at q
    omega
  · have hfin : tfin (G1 15 0) (G1 16) (xB G1) (G1 26 (RT g a)) := by
      refine hf.1 ?_
      by_cases g : G1 26 (RT g a) < G1 15 1
      · exact g
      · rw [if_neg g] at q
        exact absurd rfl q
    obtain ⟨d, hk⟩ := tok_ex hfin
    have hl : ∀ x, mf_dom (G1 15 0) x → G1 16 x = -1 → tlst (G 1 0) (fun t => G1 26 (RT g t)) x (G1 17 x) := fun x hx hl => t1.2.2.1.lstv t1.1 h.1.2.2.2.2.2.1 h.1.2.2.2.2.2.2 hx hl
    have n3 := h.1.2.2.1
    refine tf_ri (sp_71 (d := d) (t1.2.2.1.ts t1.1) (fun x hx hl' => ?_) hd1 hk) fun r2 G2 h2 => ?_
    · have := (hl x hx hl').1
      have b1 := this.1
      have b2 := this.2
      exact ⟨b1, by omega⟩
    · obtain ⟨f2, h2⟩ := h2
      have qt : xqt G G2 := fun k hk => by rw [f2 k (by omega), q1.1 k (by omega)]
      have i2 : xI0 G2 := h1.i0.fr (by rw [f2 35 (by decide)]) (f2 68 (by decide)) (f2 69 (by decide))
      rcases h2 with ⟨c1, c2, c3, c4, c5⟩ | ⟨c1, c2, c3, c4⟩
      · refine ⟨fun _ => Or.inl ⟨_, rfl, ha, qt, _, (h1.w f2 ⟨c3, c2, c4, c5, i2⟩).X, t1.an (Or.inr ⟨hfin, G1 17, d, hl, hk, Or.inr ⟨c2, c3, rfl⟩⟩)⟩, fun q => by omega⟩
      · refine ⟨fun q => by omega, fun _ => Or.inl ⟨_, rfl, ha, qt, D, (h1.w f2 ?_).X, t1.an (Or.inr ⟨hfin, G1 17, d, hl, hk, Or.inl ⟨c2, rfl, rfl⟩⟩)⟩⟩
        obtain ⟨o1, o2, o3, o4, -⟩ := h1.2.2.2.2.2
        unfold xout
        rw [c3, c4]
        exact ⟨o1, o2, o3, o4, i2⟩
theorem sx_16 (hs : 0 ≤ G 38 0 ∧ G 38 0 ≤ 200) {k : Int} : tf_RUN l 16 [tf_r 0, tf_i k] G (fun o G' => (∃ r : Int, o = .inl (some (tf_l r)) ∧ (0 ≤ k ∧ k < G 38 0) ∧ G' = G ∧ r = off (fun i => if k + i < G 38 0 then tf_land (G 39 (k + i)) 255 else 0) 8 0) ∨ (o = .inr 2 ∧ ¬ (0 ≤ k ∧ k < G 38 0) ∧ G' = G)) := by
  refine vc_16 ⟨fun q => ⟨⟨by decide, by decide⟩, Or.inr ⟨rfl, fun g => by omega, rfl⟩⟩, fun q => ⟨fun q1 => ?_, fun q1 => ⟨⟨by decide, by decide⟩, Or.inr ⟨rfl, fun g => by omega, rfl⟩⟩⟩⟩
  have loop : ∀ (j : Nat) (acc v4 : Int), j ≤ 8 → v4 = (j : Int) - 1 → off (fun i => if k + i < G 38 0 then tf_land (G 39 (k + i)) 255 else 0) 8 0 = off (fun i => if k + i < G 38 0 then tf_land (G 39 (k + i)) 255 else 0) j acc →
      tf_AW l 72 none (tf_PL fun r G' => G' = G ∧ r = off (fun i => if k + i < G 38 0 then tf_land (G 39 (k + i)) 255 else 0) 8 0) 6 [(0, tf_r 38), (1, tf_i k), (2, tf_l acc), (4, tf_i v4)] [] (none, false) G := by
    intro j
    induction j with
    | zero =>
      intro acc v4 _ e4 eo
      exact vc_72_6 ⟨fun _ => tf_pl ⟨rfl, eo.symm⟩, fun q => by omega⟩
    | succ j ih =>
      intro acc v4 hj e4 eo
      have e4' : v4 = (j : Int) := by omega
      subst e4'
      refine vc_72_6 ⟨fun q => by omega, fun _ => ⟨⟨by omega, by omega⟩, fun g => ⟨⟨by omega, by omega⟩, ?_⟩, fun g => ⟨⟨by omega, by omega⟩, ⟨by omega, by omega⟩, ⟨by omega, by omega⟩, ?_⟩⟩⟩
      · refine ih _ _ (by omega) (by omega) ?_
        rw [eo]
        simp only [off]
        rw [if_neg (by omega)]
      · refine ih _ _ (by omega) (by omega) ?_
        rw [eo]
        simp only [off]
        rw [if_pos (by omega)]
  refine tf_rl (vc_72 (loop 8 0 7 (by omega) (by omega) rfl)) fun r G1 h1 => Or.inl ⟨r, rfl, ⟨q, q1⟩, h1.1, h1.2⟩
theorem sx_17 (h : XI L R m D G) {w : Int} : tf_RUN l 17 [tf_r 0, tf_i w] G (tf_XI (0 ≤ w ∧ w ≤ 4) (fun r G' => (0 ≤ w ∧ w ≤ 4) ∧ XI L R m D G' ∧ xq G G' ∧ (w = 0 → r = G 1 0) ∧ (w = 1 → r = m) ∧ (w = 2 → r = G 11 0) ∧ (w = 3 → tA (G 1 0) (G 2) (xC G) (mf_E L R m) (Qcnt r)) ∧ (w = 4 → r = G 38 0)) G) := by
  have hI := h
  obtain ⟨g, mr, P, W, S, RT, DP, h⟩ := h
  have rq : xq G G := xq.refl
  refine vc_17 ⟨fun q => ⟨⟨by decide, by decide⟩, Or.inr ⟨rfl, fun g => by omega, rfl⟩⟩, fun q => ?_, fun q => ?_, fun q => ?_, fun q => ?_, fun q => ?_, trivial⟩
  · exact Or.inl ⟨_, rfl, by omega, hI, rq, fun _ => rfl, fun g => by omega, fun g => by omega, fun g => by omega, fun g => by omega⟩
  · exact Or.inl ⟨_, rfl, by omega, hI, rq, fun g => by omega, fun _ => h.2.2.1, fun g => by omega, fun g => by omega, fun g => by omega⟩
  · exact Or.inl ⟨_, rfl, by omega, hI, rq, fun g => by omega, fun g => by omega, fun _ => rfl, fun g => by omega, fun g => by omega⟩
  · refine tf_ri (sx_52 h) fun r1 G1 h1 => ?_
    obtain ⟨e1, q1, t1⟩ := h1
    exact Or.inl ⟨_, rfl, by omega, (h.qT q1 t1).X, q1, fun g => by omega, fun g => by omega, fun g => by omega, fun _ => t1.an e1, fun g => by omega⟩
  · exact Or.inl ⟨_, rfl, by omega, hI, rq, fun g => by omega, fun g => by omega, fun g => by omega, fun g => by omega, fun _ => rfl⟩
/-- a term more -/
def xnw (v a b c : Int) (G G' : tf_Sto) : Prop := G' 1 0 = G 1 0 + 1 ∧ (∀ t, G' 2 t = if t = G 1 0 then v else G 2 t) ∧ (∀ i, G' 3 i = if i = G 1 0 * 3 + 2 then c else if i = G 1 0 * 3 + 1 then b else if i = G 1 0 * 3 then a else G 3 i) ∧ ∀ k : Nat, (k = 0 ∨ (11 ≤ k ∧ k ≤ 14) ∨ 28 < k) → G' k = G k
theorem xnw.cld {v a b c : Int} (h : xnw v a b c G G') : (∀ t k, mf_dom (G 1 0) t → 0 ≤ k → k < 3 → xC G' t k = xC G t k) ∧ xC G' (G 1 0) 0 = a ∧ xC G' (G 1 0) 1 = b ∧ xC G' (G 1 0) 2 = c := by
  obtain ⟨_, _, h3, _⟩ := h
  refine ⟨fun t k ht k0 k1 => ?_, ?_, ?_, ?_⟩
  · have := ht.2
    unfold xC
    rw [h3, if_neg (by omega), if_neg (by omega), if_neg (by omega)]
  · unfold xC
    rw [h3, if_neg (by omega), if_neg (by omega), if_pos (by omega)]
  · unfold xC
    rw [h3, if_neg (by omega), if_pos rfl]
  · unfold xC
    rw [h3, if_pos rfl]
theorem sx_add (h : XI L R m D G) (hn : G 1 0 < 300) {v a b c : Int} (hv : v = -1 ∨ (0 ≤ v ∧ v < 64)) (hc : 0 ≤ v → (0 < v % 4 → mf_dom (G 1 0) a) ∧ (1 < v % 4 → mf_dom (G 1 0) b) ∧ (2 < v % 4 → mf_dom (G 1 0) c)) :
    tf_RUN l 25 [tf_r 1, tf_i v, tf_i a, tf_i b, tf_i c] G (fun o4 G5 => ∃ r6 : Int, o4 = .inl (some (tf_i r6)) ∧ tf_RUN l 18 [tf_r 0, tf_i r6] G5 (fun o7 G8 => ∃ r9 : Int, o7 = .inl (some (tf_i r9)) ∧ r9 = G 1 0 ∧ XI L R m D G8 ∧ xnw v a b c G G8)) := by
  obtain ⟨g, mr, P, W, S, RT, DP, h⟩ := h
  have n0 := h.1.2.2.1
  refine tf_ri (sp_25 ⟨n0.1, hn⟩) fun r1 G1 h1 => ?_
  obtain ⟨e1, h1⟩ := h1
  subst e1
  refine tf_ri (sp_18 ⟨n0.1, hn⟩) fun r2 G2 h2 => ?_
  obtain ⟨e2, h2⟩ := h2
  have g1 : ∀ t, G1 2 t = if t = G 1 0 then v else G 2 t := by
    intro t
    rw [h1]
    simp only [tf_upo, tf_upo', tf_up_eq, ne_eq, Nat.reduceEqDiff, not_false_eq_true, reduceCtorEq]
  have hx : xnw v a b c G G2 := by
    refine ⟨?_, ?_, ?_, ?_⟩
    · rw [h2, h1]
      simp only [tf_upo, tf_upo', tf_up_eq, ne_eq, Nat.reduceEqDiff, not_false_eq_true, reduceCtorEq]
      simp only [if_true]
    · intro t
      rw [h2, ← g1 t]
      simp only [tf_upo, tf_upo', tf_up_eq, ne_eq, Nat.reduceEqDiff, not_false_eq_true, reduceCtorEq]
    · intro i
      rw [h2, h1]
      simp only [tf_upo, tf_upo', tf_up_eq, ne_eq, Nat.reduceEqDiff, not_false_eq_true, reduceCtorEq]
    · intro k hk
      rw [h2, h1]
      rw [tf_upo (by omega), tf_upo (by omega), tf_upo (by omega), tf_upo (by omega), tf_upo (by omega), tf_upo (by omega), tf_upo (by omega), tf_upo (by omega), tf_upo (by omega)]
  have k5 : ∀ t, G2 5 t = if t = G 1 0 then G 1 0 else G 5 t := by
    intro t
    rw [h2, h1]
    simp only [tf_upo, tf_upo', tf_up_eq, ne_eq, Nat.reduceEqDiff, not_false_eq_true, reduceCtorEq]
  have k6 : ∀ t, G2 6 t = if t = G 1 0 then 1 else G 6 t := by
    intro t
    rw [h2, h1]
    simp only [tf_upo, tf_upo', tf_up_eq, ne_eq, Nat.reduceEqDiff, not_false_eq_true, reduceCtorEq]
  have k7 : ∀ t, G2 7 t = if t = G 1 0 then (if v = -1 then -1 else G 1 0) else G 7 t := by
    intro t
    have gv : G1 2 (G 1 0) = v := by rw [g1, if_pos rfl]
    rw [h2, gv, h1]
    simp only [tf_upo, tf_upo', tf_up_eq, ne_eq, Nat.reduceEqDiff, not_false_eq_true, reduceCtorEq]
  have k4 : G2 4 = G 4 := by
    rw [h2, h1]
    simp only [tf_upo, tf_upo', tf_up_eq, ne_eq, Nat.reduceEqDiff, not_false_eq_true, reduceCtorEq]
  have k8 : G2 8 = G 8 := by
    rw [h2, h1]
    simp only [tf_upo, tf_upo', tf_up_eq, ne_eq, Nat.reduceEqDiff, not_false_eq_true, reduceCtorEq]
  have k24 : G2 24 8 = 0 := by
    rw [h2, tf_up_at]
  refine ⟨e2, ?_, hx⟩
  obtain ⟨x1, x2, x3, x4⟩ := id hx
  obtain ⟨c1, c2, c3, c4⟩ := hx.cld
  obtain ⟨a1, a2, a3, a4, a5, a6⟩ := h
  have hd1 : ∀ t, mf_dom (G 1 0) t → G2 2 t = G 2 t := fun t ht => by rw [x2, if_neg (by have := ht.2; omega)]
  have hdn : G2 2 (G 1 0) = v := by rw [x2, if_pos rfl]
  have hg := a1.add (hd' := G2 2) (ch' := xC G2) hn hd1 c1 (by rw [hdn]; exact hv) (by
    rw [hdn]
    intro v0 k k0 k1
    obtain ⟨b1, b2, b3⟩ := hc v0
    have k3 : k = 0 ∨ k = 1 ∨ k = 2 := by omega
    rcases k3 with k3 | k3 | k3
    · subst k3
      rw [c2]; exact b1 (by omega)
    · subst k3
      rw [c3]; exact b2 (by omega)
    · subst k3
      rw [c4]; exact b3 (by omega))
  rw [hdn] at hg
  refine ⟨g, mr, xadd (G 1 0) (G 1 0) P, xadd (G 1 0) 1 W, xadd (G 1 0) (if v = -1 then -1 else G 1 0) S, xadd (G 1 0) (G 1 0) RT, xadd (G 1 0) 0 DP, ?_, ?_, ?_, ?_, ?_, ?_⟩
  · rw [x1]
    exact hg
  · rw [x1]
    refine ⟨by rw [k4]; exact a2.1, ?_, by rw [k8]; exact a2.2.2⟩
    intro t ht
    rw [k5, k6, k7]
    unfold xadd
    by_cases q : t = G 1 0
    · rw [if_pos q, if_pos q, if_pos q, if_pos q, if_pos q, if_pos q]
      exact ⟨rfl, rfl, rfl⟩
    · rw [if_neg q, if_neg q, if_neg q, if_neg q, if_neg q, if_neg q]
      exact a2.2.1 t ⟨ht.1, by have := ht.2; omega⟩
  · rw [x4 0 (Or.inl rfl)]
    exact a3
  · rw [x1, x4 11 (by omega), x4 12 (by omega), x4 13 (by omega), x4 14 (by omega)]
    exact a4.congr hd1 c1 (fun _ _ => rfl) (fun i _ _ t ht => ⟨xadd_o ht, xadd_o ht, xadd_o ht, xadd_o ht, xadd_o ht⟩) (fun _ _ _ => rfl) (by omega) (Nat.le_refl _) (Int.le_refl _)
  · intro q
    exact absurd k24 q
  · unfold xout
    rw [x4 38 (by omega), x4 39 (by omega)]
    exact ⟨a6.1, a6.2.1, a6.2.2.1, a6.2.2.2.1, a6.2.2.2.2.fr (by rw [x4 35 (by omega)]) (x4 68 (by omega)) (x4 69 (by omega))⟩
theorem sx_0 (h : XI L R m D G) : tf_RUN l 0 [tf_r 0] G (fun o G' => (∃ r : Int, o = .inl (some (tf_i r)) ∧ G 1 0 < 300 ∧ r = G 1 0 ∧ XI L R m D G' ∧ xnw (-1) 0 0 0 G G') ∨ (o = .inr 1 ∧ 300 ≤ G 1 0 ∧ G' = G)) := by
  refine vc_0 ⟨⟨by decide, by decide⟩, tf_r19 (fun hn => ?_) (fun hn => Or.inr ⟨rfl, hn, rfl⟩)⟩
  refine (sx_add h hn (Or.inl rfl) (fun q => by omega)).mono ?_
  rintro o G1 ⟨r, e, h1⟩
  refine ⟨r, e, h1.mono ?_⟩
  rintro o G2 ⟨r, e, h1, h2, h3⟩
  exact ⟨r, e, Or.inl ⟨r, rfl, hn, h1, h2, h3⟩⟩
end
