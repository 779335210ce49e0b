section
variable {n : Int} {hd : Int → Int} {ch : Int → Int → Int} {E : List (Int × Int)} {c c' : Int} {h h' : Int → Int} {b b' : Int → Int → Int} {f f' : Int → Int}
theorem tA_one {Q Q' : Int → (Int → Int) → (Int → Int → Int) → (Int → Int) → Prop} {X : Prop} (h1 : tA n hd ch E Q) (h2 : tA n hd ch E Q') (hx : ∀ c h b f c' h' b' f', c ≤ 300 → c' ≤ 300 → tsys n hd ch E c h b f → tsys n hd ch E c' h' b' f' → Q c h b f → Q' c' h' b' f' → X) : X := by
  obtain ⟨c, h, b, f, a1, a2, a3⟩ := h1
  obtain ⟨c', h', b', f', b1, b2, b3⟩ := h2
  exact hx c h b f c' h' b' f' a1 b1 a2 b2 a3 b3
theorem uq_same {a d r r' : Int} (ha : mf_dom n a) (hb : mf_dom n d) (h1 : tA n hd ch E (Qsame a d r)) (h2 : tA n hd ch E (Qsame a d r')) : r = r' := by
  refine tA_one h1 h2 ?_
  intro c h b f c' h' b' f' _ _ s s' q q'
  have := mf_sol_iff s.2.1 s'.2.1 ha hb
  unfold Qsame at q q'
  rw [q, q']
  by_cases g : f a = f d
  · rw [if_pos g, if_pos (this.1 g)]
  · rw [if_neg g, if_neg fun g' => g (this.2 g')]
theorem uq_fin {a r r' : Int} (hc : mf_con n hd ch E) (hw : mf_wf n hd ch) (ha : mf_dom n a) (h1 : tA n hd ch E (Qfin a r)) (h2 : tA n hd ch E (Qfin a r')) : r = r' := by
  refine tA_one h1 h2 ?_
  intro c h b f c' h' b' f' _ _ s s' q q'
  have hi := (tsys.iso s s' hc hw).fin_iff (x := f a) (y := f' a) ⟨a, ha, rfl, rfl⟩
  rcases q with ⟨q, g⟩ | ⟨q, g⟩ <;> rcases q' with ⟨q', g'⟩ | ⟨q', g'⟩
  · omega
  · exact absurd (hi.1 g) g'
  · exact absurd (hi.2 g') g
  · omega
theorem uq_size {a r r' : Int} (hc : mf_con n hd ch E) (hw : mf_wf n hd ch) (ha : mf_dom n a) (h1 : tA n hd ch E (Qsize a r)) (h2 : tA n hd ch E (Qsize a r')) : r = r' := by
  refine tA_one h1 h2 ?_
  rintro c h b f c' h' b' f' _ _ s s' ⟨sz, dp, m, q⟩ ⟨sz', dp', m', q'⟩
  have hi := tsys.iso s s' hc hw
  have hr : ∃ t, mf_dom n t ∧ f t = f a ∧ f' t = f' a := ⟨a, ha, rfl, rfl⟩
  rcases q with ⟨q, g⟩ | ⟨q, g⟩ <;> rcases q' with ⟨q', g'⟩ | ⟨q', g'⟩
  · rw [g, g', (hi.meas m m' hr q).1]
  · exact absurd (hi.fin hr q) q'
  · exact absurd (hi.flip.fin hr q') q
  · omega
theorem uq_depth {a r r' : Int} (hc : mf_con n hd ch E) (hw : mf_wf n hd ch) (ha : mf_dom n a) (h1 : tA n hd ch E (Qdepth a r)) (h2 : tA n hd ch E (Qdepth a r')) : r = r' := by
  refine tA_one h1 h2 ?_
  rintro c h b f c' h' b' f' _ _ s s' ⟨sz, dp, m, q⟩ ⟨sz', dp', m', q'⟩
  have hi := tsys.iso s s' hc hw
  have hr : ∃ t, mf_dom n t ∧ f t = f a ∧ f' t = f' a := ⟨a, ha, rfl, rfl⟩
  rcases q with ⟨q, g⟩ | ⟨q, g⟩ <;> rcases q' with ⟨q', g'⟩ | ⟨q', g'⟩
  · rw [g, g', (hi.meas m m' hr q).2]
  · exact absurd (hi.fin hr q) q'
  · exact absurd (hi.flip.fin hr q') q
  · omega
theorem uq_with {lv a r r' : Int} (hc : mf_con n hd ch E) (hw : mf_wf n hd ch) (ha : mf_dom n a) (h1 : tA n hd ch E (Qwith lv a r)) (h2 : tA n hd ch E (Qwith lv a r')) : r = r' := by
  refine tA_one h1 h2 ?_
  intro c h b f c' h' b' f' _ _ s s' q q'
  have hi := tsys.iso s s' hc hw
  unfold Qwith at q q'
  rw [q, q']
  refine tsys.cnt s s' ?_
  intro t ht
  have hr : ∃ u, mf_dom n u ∧ f u = f t ∧ f' u = f' t := ⟨t, ht, rfl, rfl⟩
  rw [hi.reach_iff (x := f a) (y := f' a) ⟨a, ha, rfl, rfl⟩ hr, (hi.2.2.1 _ _ hr).2.2.1]
theorem uq_inst {a d r r' : Int} (hc : mf_con n hd ch E) (hw : mf_wf n hd ch) (ha : mf_dom n a) (hb : mf_dom n d) (h1 : tA n hd ch E (Qinst a d r)) (h2 : tA n hd ch E (Qinst a d r')) : r = r' := by
  refine tA_one h1 h2 ?_
  intro c h b f c' h' b' f' _ _ s s' q q'
  have hi := (tsys.iso s s' hc hw).match_iff (x := f a) (y := f d) (x' := f' a) (y' := f' d) ⟨a, ha, rfl, rfl⟩ ⟨d, hb, rfl, rfl⟩
  rcases q with ⟨q, g⟩ | ⟨q, g⟩ <;> rcases q' with ⟨q', g'⟩ | ⟨q', g'⟩
  · omega
  · exact absurd (hi.1 g) g'
  · exact absurd (hi.2 g') g
  · omega
theorem uq_vari {a d r r' : Int} (hc : mf_con n hd ch E) (hw : mf_wf n hd ch) (ha : mf_dom n a) (hb : mf_dom n d) (h1 : tA n hd ch E (Qvari a d r)) (h2 : tA n hd ch E (Qvari a d r')) : r = r' := by
  refine tA_one h1 h2 ?_
  intro c h b f c' h' b' f' _ _ s s' q q'
  have hi := (tsys.iso s s' hc hw).match_iff (x := f a) (y := f d) (x' := f' a) (y' := f' d) ⟨a, ha, rfl, rfl⟩ ⟨d, hb, rfl, rfl⟩
  have hj := (tsys.iso s s' hc hw).match_iff (x := f d) (y := f a) (x' := f' d) (y' := f' a) ⟨d, hb, rfl, rfl⟩ ⟨a, ha, rfl, rfl⟩
  unfold Qvari at q q'
  rw [hi, hj] at q
  rcases q with ⟨q, g⟩ | ⟨q, g⟩ <;> rcases q' with ⟨q', g'⟩ | ⟨q', g'⟩
  · omega
  · exact absurd g g'
  · exact absurd g' g
  · omega
theorem uq_com {a d w r r' : Int} (hc : mf_con n hd ch E) (hw : mf_wf n hd ch) (hn : n ≤ 300) (ha : mf_dom n a) (hb : mf_dom n d) (h1 : tA n hd ch E (Qcom a d w r)) (h2 : tA n hd ch E (Qcom a d w r')) : r = r' := by
  refine tA_one h1 h2 ?_
  intro c h b f c' h' b' f' l l' s s' q q'
  unfold Qcom at q q'
  rw [q, q']
  exact tsys.com s s' hc hw hn l l' ha hb
theorem uq_cnt {r r' : Int} (h1 : tA n hd ch E (Qcnt r)) (h2 : tA n hd ch E (Qcnt r')) : r = r' := by
  refine tA_one h1 h2 ?_
  intro c h b f c' h' b' f' l l' s s' q q'
  unfold Qcnt at q q'
  rw [q, q']
  exact tsys.num s s'
theorem uq_text {a r r' : Int} {D D1 D2 : List Int} (hc : mf_con n hd ch E) (hw : mf_wf n hd ch) (ha : mf_dom n a) (h1 : tA n hd ch E (Qtext n a D D1 r)) (h2 : tA n hd ch E (Qtext n a D D2 r')) : r = r' ∧ D1 = D2 := by
  refine tA_one h1 h2 ?_
  intro c h b f c' h' b' f' l l' s s' q q'
  have hi := tsys.iso s s' hc hw
  have hr : ∃ t, mf_dom n t ∧ f t = f a ∧ f' t = f' a := ⟨a, ha, rfl, rfl⟩
  have hfi := hi.fin_iff hr
  rcases q with ⟨q, g1, g2⟩ | ⟨q, lst, d, g1, g2, g3⟩ <;> rcases q' with ⟨q', g1', g2'⟩ | ⟨q', lst', d', g1', g2', g3'⟩
  · exact ⟨by omega, by rw [g2, g2']⟩
  · exact absurd (hfi.2 q') q
  · exact absurd (hfi.1 q) q'
  · have e1 : tS h lst b d (f a) = tS h' lst' b' d (f' a) := by
      refine hi.tSd (fun x y hxy hl => ?_) hr
      obtain ⟨x1, x2, x3, x4⟩ := hi.2.2.1 x y hxy
      exact tsys.lst s s' hxy (g1 x x1 hl) (g1' y x2 (by rw [x3]; exact hl))
    have e2 := tS_fuel (lst := lst') (d := d) (e := d + d') (by omega) (hi.tokd hr g2)
    have e3 := tS_fuel (lst := lst') (d := d') (e := d + d') (by omega) g2'
    rw [e1, e2, ← e3] at g3
    rcases g3 with ⟨k1, k2, k3⟩ | ⟨k1, k2, k3⟩ <;> rcases g3' with ⟨k1', k2', k3'⟩ | ⟨k1', k2', k3'⟩
    · exact ⟨by omega, by rw [k3, k3']⟩
    · omega
    · omega
    · exact ⟨by omega, by rw [k3, k3']⟩
end
/-- the two side by side -/
def INV (m : Nat) (D : List Int) (G : tf_Sto) : Prop := XI (G 46) (G 47) m D G ∧ mv (G 1 0) (G 2) (xC G) G ∧ G 42 5 = m ∧ G 42 8 = G 11 0 ∧ (∀ j, mf_dom (G 11 0) j → G 48 j = G 12 j ∧ G 49 j = G 13 j) ∧ G 42 28 = (D.length : Int) ∧ wr (G 63) D
/-- after a call of each -/
def pQ (m : Nat) (k b : Int) (G : tf_Sto) : Prop := (∃ (m' : Nat) (D' : List Int), m' ≤ m + 1 ∧ INV m' D' G) ∧ G 42 0 = k ∧ (k = 0 → G 67 0 = b)
section
variable {l : Launch} {G G' G2 : tf_Sto} {m : Nat} {D : List Int} {L R : Int → Int}
theorem XI.low (h : XI L R m D G) (hk : ∀ k : Nat, (k ≤ 41 ∨ 67 < k) → G' k = G k) : XI L R m D G' := by
  obtain ⟨g, mr, P, W, S, RT, DP, a1, a2, a3, a4, a5, a6⟩ := h
  refine ⟨g, mr, P, W, S, RT, DP, ?_⟩
  have hf : G' 24 8 ≠ 0 → xFV (G 1 0) (G 2) (xC G) (RT g) (S g) G' := by
    rw [hk 24 (by decide)]
    exact fun q => (a5 q).fr fun k _ k2 => hk k (by omega)
  unfold XD xu xout
  rw [xC_eq (hk 3 (by decide)), hk 0 (by decide), hk 1 (by decide), hk 2 (by decide), hk 4 (by decide), hk 5 (by decide), hk 6 (by decide), hk 7 (by decide), hk 8 (by decide), hk 11 (by decide), hk 12 (by decide), hk 13 (by decide), hk 14 (by decide), hk 38 (by decide), hk 39 (by decide)]
  exact ⟨a1, a2, a3, a4, hf, a6.1, a6.2.1, a6.2.2.1, a6.2.2.2.1, a6.2.2.2.2.fr (by rw [hk 35 (by decide)]) (hk 68 (by decide)) (hk 69 (by decide))⟩
theorem INV.base (h : INV m D G) : (0 ≤ G 1 0 ∧ G 1 0 ≤ 300) ∧ mf_wf (G 1 0) (G 2) (xC G) ∧ (∀ q ∈ mf_E (G 46) (G 47) m, mf_dom (G 1 0) q.1 ∧ mf_dom (G 1 0) q.2) ∧ mf_con (G 1 0) (G 2) (xC G) (mf_E (G 46) (G 47) m) := by
  obtain ⟨g, mr, P, W, S, RT, DP, a1, _⟩ := h.1
  exact ⟨a1.2.2.1, a1.2.2.2.1, a1.2.2.2.2.1, a1.2.2.2.2.2.2⟩
theorem INV.mvs (h : INV m D G) (hm : m ≤ 4999) : MV (G 1 0) (G 2) (xC G) m G := by
  obtain ⟨b1, b2, b3, b4⟩ := h.base
  exact ⟨h.2.1, b1, b2, h.2.2.1, hm, b3, b4⟩
/-- what a call of the program that asks leaves for the reference -/
theorem MV.x {n : Int} {hd : Int → Int} {ch : Int → Int → Int} (h : MV n hd ch m G) (hk : ∀ k : Nat, 42 ≤ k → k ≤ 49 → G' k = G k) : MV n hd ch m G' := by
  obtain ⟨h1, h2, h3, h4, h5, h6, h7⟩ := h
  refine ⟨h1.fr (by rw [hk 42 (by decide) (by decide)]) (hk 43 (by decide) (by decide)) (hk 44 (by decide) (by decide)) (hk 45 (by decide) (by decide)), h2, h3, by rw [hk 42 (by decide) (by decide)]; exact h4, h5, ?_, ?_⟩
  · rw [hk 46 (by decide) (by decide), hk 47 (by decide) (by decide)]; exact h6
  · rw [hk 46 (by decide) (by decide), hk 47 (by decide) (by decide)]; exact h7
theorem INV.ask (h : INV m D G) (hx : XI (G 46) (G 47) m D G') (hq : xq G G') {v : Int} (hm : mq (tf_up G' 67 0 v) G2) : INV m D G2 ∧ G2 67 0 = v := by
  obtain ⟨h1, h2, h3, h4, h5, h6, h7⟩ := h
  have k : ∀ k : Nat, k ≠ 42 → (k < 50 ∨ 62 < k) → k ≠ 64 → k ≠ 65 → k ≠ 66 → k ≠ 67 → G2 k = G' k := fun k q1 q2 q3 q4 q5 q6 => by rw [hm.1 k q1 q2 q3 q4 q5, tf_upo q6]
  have kk : ∀ k : Nat, k ≠ 42 → (k < 15 ∨ (37 < k ∧ k < 50) ∨ k = 63) → G2 k = G k := fun i q1 q2 => by rw [k i q1 (by omega) (by omega) (by omega) (by omega) (by omega), hq.1 i (by omega)]
  have kf : ∀ j : Int, j ≠ 0 → j ≠ 14 → j ≠ 18 → j ≠ 26 → j ≠ 30 → G2 42 j = G 42 j := fun j q1 q2 q3 q4 q5 => by rw [hm.2 j q1 q2 q3 q4 q5, tf_upo' (by decide), hq.1 42 (by decide)]
  refine ⟨⟨?_, ?_, ?_, ?_, ?_, ?_, ?_⟩, ?_⟩
  · rw [kk 46 (by decide) (by decide), kk 47 (by decide) (by decide)]
    exact hx.low fun i hi => k i (by omega) (by omega) (by omega) (by omega) (by omega) (by omega)
  · rw [kk 1 (by decide) (by decide), kk 2 (by decide) (by decide), xC_eq (kk 3 (by decide) (by decide))]
    exact h2.fr (kf 1 (by decide) (by decide) (by decide) (by decide) (by decide)) (kk 43 (by decide) (by decide)) (kk 44 (by decide) (by decide)) (kk 45 (by decide) (by decide))
  · rw [kf 5 (by decide) (by decide) (by decide) (by decide) (by decide)]; exact h3
  · rw [kf 8 (by decide) (by decide) (by decide) (by decide) (by decide), kk 11 (by decide) (by decide)]; exact h4
  · rw [kk 11 (by decide) (by decide), kk 12 (by decide) (by decide), kk 13 (by decide) (by decide), kk 48 (by decide) (by decide), kk 49 (by decide) (by decide)]; exact h5
  · rw [kf 28 (by decide) (by decide) (by decide) (by decide) (by decide)]; exact h6
  · rw [kk 63 (by decide) (by decide)]; exact h7
  · rw [hm.1 67 (by decide) (by decide) (by decide) (by decide) (by decide), tf_up_at]
theorem INV.bad (h : INV m D G) (hm : mq G G2) : INV m D G2 := by
  have e : tf_up G 67 0 (G 67 0) = G := by
    funext k i
    rw [tf_up]
    by_cases q : k = 67 ∧ i = 0
    · rw [if_pos q, q.1, q.2]
    · rw [if_neg q]
  have hm' : mq (tf_up G 67 0 (G 67 0)) G2 := by rw [e]; exact hm
  exact (h.ask h.1 xq.refl hm').1
theorem INV.x (h : INV m D G) (hm : m ≤ 4999) (hq : xq G G') {v : Int} : MV (G 1 0) (G 2) (xC G) m (tf_up G' 67 0 v) := (h.mvs hm).x fun k k1 k2 => by rw [tf_upo (by omega), hq.1 k (by omega)]
theorem xq.eqs (hq : xq G G') {v : Int} : mf_E (tf_up G' 67 0 v 46) (tf_up G' 67 0 v 47) m = mf_E (G 46) (G 47) m := by
  rw [tf_upo (by decide), tf_upo (by decide), hq.1 46 (by decide), hq.1 47 (by decide)]
end
