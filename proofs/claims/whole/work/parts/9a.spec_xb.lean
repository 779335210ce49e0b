/-- what the levels keep -/
def lvO (n : Int) (hd : Int → Int) (ch : Int → Int → Int) (L R : Int → Int) (m : Nat) (g : Int) (mr : Int → Int) (P W S RT DP : Int → Int → Int) (A B C : Int → Int) (lv : Int) : Prop :=
  (0 ≤ lv ∧ lv ≤ 20) ∧ ∀ j, mf_dom lv j → gd (A j) hd ch L R (B j).toNat (C j) mr P W S RT DP ∧ (0 ≤ B j ∧ B j ≤ m) ∧ A j ≤ n ∧ C j ≤ g ∧ ∀ i, j ≤ i → i < lv → A j ≤ A i ∧ B j ≤ B i ∧ C j ≤ C i
def xout (D : List Int) (G : tf_Sto) : Prop := G 38 0 = (D.length : Int) ∧ D.length ≤ 200 ∧ wr (G 39) D ∧ (∀ v ∈ D, 0 ≤ v ∧ v ≤ 127) ∧ xI0 G
def XD (L R : Int → Int) (m : Nat) (D : List Int) (g : Int) (mr : Int → Int) (P W S RT DP : Int → Int → Int) (G : tf_Sto) : Prop := gd (G 1 0) (G 2) (xC G) L R m g mr P W S RT DP ∧ xu (G 1 0) g mr P W S G ∧ G 0 9 = m ∧
  lvO (G 1 0) (G 2) (xC G) L R m g mr P W S RT DP (G 12) (G 13) (G 14) (G 11 0) ∧ (G 24 8 ≠ 0 → xFV (G 1 0) (G 2) (xC G) (RT g) (S g) G) ∧ xout D G
/-- the program's side of the invariant -/
def XI (L R : Int → Int) (m : Nat) (D : List Int) (G : tf_Sto) : Prop := ∃ (g : Int) (mr : Int → Int) (P W S RT DP : Int → Int → Int), XD L R m D g mr P W S RT DP G
section
variable {l : Launch} {G G' : tf_Sto} {n n' : Int} {hd hd' : Int → Int} {ch ch' : Int → Int → Int} {L R L' R' : Int → Int} {m m' : Nat} {D : List Int} {g g' : Int} {mr mr' : Int → Int} {P W S RT DP P' W' S' RT' DP' : Int → Int → Int} {A B C : Int → Int} {lv : Int}
theorem lvO.congr (h : lvO n hd ch L R m g mr P W S RT DP A B C lv) (h1 : ∀ t, mf_dom n t → hd' t = hd t) (h2 : ∀ t k, mf_dom n t → 0 ≤ k → k < 3 → ch' t k = ch t k) (hE : ∀ i : Nat, i ≤ m → mf_E L' R' i = mf_E L R i)
    (hp : ∀ i, 0 ≤ i → i ≤ g → ∀ t, mf_dom n t → P' i t = P i t ∧ W' i t = W i t ∧ S' i t = S i t ∧ RT' i t = RT i t ∧ DP' i t = DP i t) (hm : ∀ i, 0 ≤ i → i < g → mr' i = mr i) (hn : n ≤ n') (hmm : m ≤ m') (hg : g ≤ g') : lvO n' hd' ch' L' R' m' g' mr' P' W' S' RT' DP' A B C lv := by
  refine ⟨h.1, fun j hj => ?_⟩
  obtain ⟨a1, a2, a3, a4, a5⟩ := h.2 j hj
  have up : ∀ t, mf_dom (A j) t → mf_dom n t := fun t ht => ⟨ht.1, by have := ht.2; omega⟩
  refine ⟨a1.congr (fun t ht => h1 t (up t ht)) (fun t k ht => h2 t k (up t ht)) (hE _ (by omega)) (fun i i0 i1 t ht => hp i i0 (by omega) t (up t ht)) (fun i i0 i1 => hm i i0 (by omega)), ⟨by omega, by omega⟩, by omega, by omega, a5⟩
theorem xC_eq (e : G' 3 = G 3) : xC G' = xC G := by
  unfold xC
  rw [e]
def xq (G G' : tf_Sto) : Prop := (∀ k : Nat, (k < 15 ∨ (37 < k ∧ k < 68)) → G' k = G k) ∧ (xI0 G → xI0 G')
theorem xq.trans {G G' G'' : tf_Sto} (h : xq G G') (h' : xq G' G'') : xq G G'' := ⟨fun k hk => (h'.1 k hk).trans (h.1 k hk), fun q => h'.2 (h.2 q)⟩
theorem xq.refl {G : tf_Sto} : xq G G := ⟨fun _ _ => rfl, fun q => q⟩
theorem xq.of (h : ∀ k : Nat, (k < 15 ∨ 37 < k ∨ k = 35) → G' k = G k) : xq G G' := ⟨fun k hk => h k (by omega), fun q => q.fr (by rw [h 35 (by decide)]) (h 68 (by decide)) (h 69 (by decide))⟩
theorem XD.i0 (h : XD L R m D g mr P W S RT DP G) : xI0 G := h.2.2.2.2.2.2.2.2.2
theorem XD.q (h : XD L R m D g mr P W S RT DP G) (hq : xq G G') (hf : G' 24 8 ≠ 0 → xFV (G 1 0) (G 2) (xC G) (RT g) (S g) G') : XD L R m D g mr P W S RT DP G' := by
  obtain ⟨a1, a2, a3, a4, a5, a6⟩ := h
  obtain ⟨hk, hi⟩ := hq
  unfold XD xu xout
  rw [xC_eq (hk 3 (by decide)), hk 0 (by decide), hk 1 (by decide), hk 2 (by decide), hk 4 (by decide), hk 5 (by decide), hk 6 (by decide), hk 7 (by decide), hk 8 (by decide), hk 11 (by decide), hk 12 (by decide), hk 13 (by decide), hk 14 (by decide), hk 38 (by decide), hk 39 (by decide)]
  exact ⟨a1, a2, a3, a4, hf, a6.1, a6.2.1, a6.2.2.1, a6.2.2.2.1, hi a6.2.2.2.2⟩
/-- the trees are found -/
def xT (n : Int) (hd : Int → Int) (ch : Int → Int → Int) (E : List (Int × Int)) (rt sh : Int → Int) (G : tf_Sto) : Prop := xs n hd ch rt sh G ∧ G 24 8 ≠ 0 ∧ xFV n hd ch rt sh G ∧ tsys n hd ch E (G 15 0) (G 16) (xB G) (fun t => G 26 (rt t)) ∧ G 15 0 ≤ 300
theorem xfr3.q (h : xfr3 G G') : xq G G' := xq.of fun k hk => h k (by omega)
theorem xT.an {n : Int} {hd : Int → Int} {ch : Int → Int → Int} {E : List (Int × Int)} {rt sh : Int → Int} (h : xT n hd ch E rt sh G) {Q : Int → (Int → Int) → (Int → Int → Int) → (Int → Int) → Prop} (hq : Q (G 15 0) (G 16) (xB G) (fun t => G 26 (rt t))) : tA n hd ch E Q := ⟨_, _, _, _, h.2.2.2.2, h.2.2.2.1, hq⟩
theorem sx_51 (h : XD L R m D g mr P W S RT DP G) {t : Int} (ht : mf_dom (G 1 0) t) : tf_RUN l 51 [tf_r 24, tf_i t] G (tf_PI fun r G' => r = G' 26 (RT g t) ∧ xq G G' ∧ xT (G 1 0) (G 2) (xC G) (mf_E L R m) (RT g) (S g) G') := by
  have hx := h.1.xs h.2.1
  refine tf_ri (sp_51 hx h.2.2.2.2.1 ht) fun r G1 h1 => ?_
  obtain ⟨e1, e2, e3, e4⟩ := h1
  have hx1 := hx.f3 e2
  refine ⟨e1, e2.q, hx1, e3, e4, e4.sys hx1 h.1.2.2.2.2.2.1 h.1.2.2.2.2.2.2, ?_⟩
  have := e4.1
  have := h.1.2.2.1
  omega
theorem sx_51' {E : List (Int × Int)} {rt sh : Int → Int} (h : xT n hd ch E rt sh G) {t : Int} (ht : mf_dom n t) : tf_RUN l 51 [tf_r 24, tf_i t] G (tf_PI fun r G' => r = G 26 (rt t) ∧ G' = G) := sp_51' h.1 h.2.1 h.2.2.1 ht
theorem sx_52 (h : XD L R m D g mr P W S RT DP G) : tf_RUN l 52 [tf_r 24] G (tf_PI fun r G' => r = G' 15 0 ∧ xq G G' ∧ xT (G 1 0) (G 2) (xC G) (mf_E L R m) (RT g) (S g) G') := by
  have hx := h.1.xs h.2.1
  refine tf_ri (sp_52 hx h.2.2.2.2.1) fun r G1 h1 => ?_
  obtain ⟨e1, e2, e3, e4⟩ := h1
  have hx1 := hx.f3 e2
  refine ⟨e1, e2.q, hx1, e3, e4, e4.sys hx1 h.1.2.2.2.2.2.1 h.1.2.2.2.2.2.2, ?_⟩
  have := e4.1
  have := h.1.2.2.1
  omega
theorem tf_r20 {t : Int} {K K0 K1 K2 : tf_Sto → Prop} (h1 : mf_dom (G 1 0) t → K G) (h2 : ¬ mf_dom (G 1 0) t → K0 G) : tf_RUN l 20 [tf_r 0, tf_i t] G (fun o G' => (o = .inl none ∧ K G') ∨ (o = .inr 0 ∧ K0 G') ∨ (o = .inr 1 ∧ K1 G') ∨ (o = .inr 2 ∧ K2 G')) :=
  vc_20 ⟨fun q => ⟨⟨by decide, by decide⟩, Or.inr (Or.inl ⟨rfl, h2 fun g => by have := g.1; omega⟩)⟩, fun q => ⟨fun q1 => Or.inl ⟨rfl, h1 ⟨q, q1⟩⟩, fun q1 => ⟨⟨by decide, by decide⟩, Or.inr (Or.inl ⟨rfl, h2 fun g => by have := g.2; omega⟩)⟩⟩⟩
theorem tf_r21 {a b : Int} {K K0 K1 K2 : tf_Sto → Prop} (h1 : (mf_dom (G 1 0) a ∧ mf_dom (G 1 0) b) → K G) (h2 : ¬ (mf_dom (G 1 0) a ∧ mf_dom (G 1 0) b) → K0 G) : tf_RUN l 21 [tf_r 0, tf_i a, tf_i b] G (fun o G' => (o = .inl none ∧ K G') ∨ (o = .inr 0 ∧ K0 G') ∨ (o = .inr 1 ∧ K1 G') ∨ (o = .inr 2 ∧ K2 G')) :=
  vc_21 ⟨⟨by decide, by decide⟩, tf_r20 (fun ha => ⟨⟨by decide, by decide⟩, tf_r20 (fun hb => Or.inl ⟨rfl, h1 ⟨ha, hb⟩⟩) (fun hb => Or.inr (Or.inl ⟨rfl, h2 fun g => hb g.2⟩))⟩) (fun ha => Or.inr (Or.inl ⟨rfl, h2 fun g => ha g.1⟩))⟩
theorem tf_r19 {K K0 K1 K2 : tf_Sto → Prop} (h1 : G 1 0 < 300 → K G) (h2 : 300 ≤ G 1 0 → K1 G) : tf_RUN l 19 [tf_r 0] G (fun o G' => (o = .inl none ∧ K G') ∨ (o = .inr 0 ∧ K0 G') ∨ (o = .inr 1 ∧ K1 G') ∨ (o = .inr 2 ∧ K2 G')) :=
  vc_19 ⟨fun q => Or.inl ⟨rfl, h1 q⟩, fun q => ⟨⟨by decide, by decide⟩, Or.inr (Or.inr (Or.inl ⟨rfl, h2 q⟩))⟩⟩
/-- an answer of the program, or a throw -/
def xA (L R : Int → Int) (m : Nat) (D : List Int) (G : tf_Sto) (ok : Prop) (Q : Int → Int → (Int → Int) → (Int → Int → Int) → (Int → Int) → Prop) (r : Int) (G' : tf_Sto) : Prop := ok ∧ XI L R m D G' ∧ xq G G' ∧ tA (G 1 0) (G 2) (xC G) (mf_E L R m) (Q r)
abbrev tf_XI (ok : Prop) (Q : Int → tf_Sto → Prop) (G : tf_Sto) : tf_Out → tf_Sto → Prop := fun o G' => (∃ r : Int, o = .inl (some (tf_i r)) ∧ Q r G') ∨ (o = .inr 0 ∧ ¬ ok ∧ G' = G)
abbrev tf_XL (ok : Prop) (Q : Int → tf_Sto → Prop) (G : tf_Sto) : tf_Out → tf_Sto → Prop := fun o G' => (∃ r : Int, o = .inl (some (tf_l r)) ∧ Q r G') ∨ (o = .inr 0 ∧ ¬ ok ∧ G' = G)
theorem XD.X (h : XD L R m D g mr P W S RT DP G) : XI L R m D G := ⟨g, mr, P, W, S, RT, DP, h⟩
theorem XD.qT (h : XD L R m D g mr P W S RT DP G) (hq : xq G G') (hT : xT (G 1 0) (G 2) (xC G) (mf_E L R m) (RT g) (S g) G') : XD L R m D g mr P W S RT DP G' := h.q hq fun _ => hT.2.2.1
theorem sx_6 (h : XI L R m D G) {a b : Int} : tf_RUN l 6 [tf_r 0, tf_i a, tf_i b] G (tf_XI (mf_dom (G 1 0) a ∧ mf_dom (G 1 0) b) (xA L R m D G (mf_dom (G 1 0) a ∧ mf_dom (G 1 0) b) (Qsame a b)) G) := by
  obtain ⟨g, mr, P, W, S, RT, DP, h⟩ := h
  refine vc_6 ⟨⟨by decide, by decide⟩, tf_r21 (fun hab => ?_) (fun hab => Or.inr ⟨rfl, hab, rfl⟩)⟩
  refine tf_ri (sx_51 h hab.1) fun r1 G1 h1 => ?_
  obtain ⟨e1, q1, t1⟩ := h1
  refine tf_re (sx_51' t1 hab.2) ?_
  subst e1
  refine ⟨fun q => ⟨Or.inl rfl, Or.inl ⟨0, rfl, hab, (h.qT q1 t1).X, q1, t1.an ?_⟩⟩, fun q => ⟨Or.inr rfl, Or.inl ⟨1, rfl, hab, (h.qT q1 t1).X, q1, t1.an ?_⟩⟩⟩
  · unfold Qsame; rw [if_neg q]
  · unfold Qsame; rw [if_pos q]
theorem xT.dom {E : List (Int × Int)} {rt sh : Int → Int} (h : xT n hd ch E rt sh G) {t : Int} (ht : mf_dom n t) : mf_dom (G 15 0) (G 26 (rt t)) := h.2.2.2.1.2.1.1.1 t ht
theorem sx_7 (h : XI L R m D G) {a : Int} : tf_RUN l 7 [tf_r 0, tf_i a] G (tf_XI (mf_dom (G 1 0) a) (xA L R m D G (mf_dom (G 1 0) a) (Qfin a)) G) := by
  obtain ⟨g, mr, P, W, S, RT, DP, h⟩ := h
  refine vc_7 ⟨⟨by decide, by decide⟩, tf_r20 (fun ha => ?_) (fun ha => Or.inr ⟨rfl, ha, rfl⟩)⟩
  refine tf_ri (sx_51 h ha) fun r1 G1 h1 => ?_
  obtain ⟨e1, q1, t1⟩ := h1
  refine tf_re sp_42 ?_
  subst e1
  have hf := t1.2.2.1.fin (t1.dom ha)
  by_cases q : G1 26 (RT g a) < G1 15 1
  · rw [if_pos q]
    exact ⟨Or.inr rfl, Or.inl ⟨1, rfl, ha, (h.qT q1 t1).X, q1, t1.an (Or.inl ⟨rfl, hf.1 q⟩)⟩⟩
  · rw [if_neg q]
    exact ⟨Or.inl rfl, Or.inl ⟨0, rfl, ha, (h.qT q1 t1).X, q1, t1.an (Or.inr ⟨rfl, fun g => q (hf.2 g)⟩)⟩⟩
theorem sx_8 (h : XI L R m D G) {a : Int} : tf_RUN l 8 [tf_r 0, tf_i a] G (tf_XL (mf_dom (G 1 0) a) (xA L R m D G (mf_dom (G 1 0) a) (Qsize a)) G) := by
  obtain ⟨g, mr, P, W, S, RT, DP, h⟩ := h
  refine vc_8 ⟨⟨by decide, by decide⟩, tf_r20 (fun ha => ?_) (fun ha => Or.inr ⟨rfl, ha, rfl⟩)⟩
  refine tf_ri (sx_51 h ha) fun r1 G1 h1 => ?_
  obtain ⟨e1, q1, t1⟩ := h1
  refine tf_re sp_42 ?_
  subst e1
  have hd1 := t1.dom ha
  have hf := t1.2.2.1.fin hd1
  have hc := t1.2.2.2.2
  refine ⟨fun q => Or.inl ⟨-1, rfl, ha, (h.qT q1 t1).X, q1, t1.an ⟨_, _, t1.2.2.1.meas, Or.inr ⟨fun g => ?_, rfl⟩⟩⟩, fun q => ⟨⟨hd1.1, by have := hd1.2; omega⟩, Or.inl ⟨_, rfl, ha, (h.qT q1 t1).X, q1, t1.an ⟨_, _, t1.2.2.1.meas, Or.inl ⟨hf.1 ?_, rfl⟩⟩⟩⟩⟩
  · rw [if_pos (hf.2 g)] at q
    omega
  · by_cases g : G1 26 (RT g a) < G1 15 1
    · exact g
    · rw [if_neg g] at q
      exact absurd rfl q
theorem sx_9 (h : XI L R m D G) {a : Int} : tf_RUN l 9 [tf_r 0, tf_i a] G (tf_XI (mf_dom (G 1 0) a) (xA L R m D G (mf_dom (G 1 0) a) (Qdepth a)) G) := by
  obtain ⟨g, mr, P, W, S, RT, DP, h⟩ := h
  refine vc_9 ⟨⟨by decide, by decide⟩, tf_r20 (fun ha => ?_) (fun ha => Or.inr ⟨rfl, ha, rfl⟩)⟩
  refine tf_ri (sx_51 h ha) fun r1 G1 h1 => ?_
  obtain ⟨e1, q1, t1⟩ := h1
  refine tf_re sp_42 ?_
  subst e1
  have hd1 := t1.dom ha
  have hf := t1.2.2.1.fin hd1
  have hc := t1.2.2.2.2
  refine ⟨fun q => Or.inl ⟨-1, rfl, ha, (h.qT q1 t1).X, q1, t1.an ⟨_, _, t1.2.2.1.meas, Or.inr ⟨fun g => ?_, rfl⟩⟩⟩, fun q => ⟨⟨hd1.1, by have := hd1.2; omega⟩, Or.inl ⟨_, rfl, ha, (h.qT q1 t1).X, q1, t1.an ⟨_, _, t1.2.2.1.meas, Or.inl ⟨hf.1 ?_, rfl⟩⟩⟩⟩⟩
  · rw [if_pos (hf.2 g)] at q
    omega
  · by_cases g : G1 26 (RT g a) < G1 15 1
    · exact g
    · rw [if_neg g] at q
      exact absurd rfl q
theorem xT.k {E : List (Int × Int)} {rt sh : Int → Int} (h : xT n hd ch E rt sh G) (hk : ∀ k : Nat, k ≤ 28 → G' k = G k) : xT n hd ch E rt sh G' := by
  obtain ⟨a1, a2, a3, a4, a5⟩ := h
  refine ⟨a1.fr fun k hk' => hk k (by omega), by rw [hk 24 (by decide)]; exact a2, a3.fr fun k _ k2 => hk k (by omega), ?_, by rw [hk 15 (by decide)]; exact a5⟩
  rw [hk 15 (by decide), hk 16 (by decide), xB_eq (hk 20 (by decide)), hk 26 (by decide)]
  exact a4
theorem sx_10 (h : XI L R m D G) {a : Int} : tf_RUN l 10 [tf_r 0, tf_i a] G (tf_XI (mf_dom (G 1 0) a) (xA L R m D G (mf_dom (G 1 0) a) (Qwith 1 a)) G) := by
  obtain ⟨g, mr, P, W, S, RT, DP, h⟩ := h
  refine vc_10 ⟨⟨by decide, by decide⟩, tf_r20 (fun ha => ?_) (fun ha => Or.inr ⟨rfl, ha, rfl⟩)⟩
  refine tf_ri (sx_51 h ha) fun r1 G1 h1 => ?_
  obtain ⟨e1, q1, t1⟩ := h1
  subst e1
  have hts := t1.2.2.1.ts t1.1
  refine tf_rv (sp_62 hts (t1.dom ha)) fun G2 h2 => ?_
  obtain ⟨f2, l2, r2⟩ := h2
  have e16 : G2 16 = G1 16 := f2 16 (by decide) (by decide) (by decide)
  have e20 : G2 20 = G1 20 := f2 20 (by decide) (by decide) (by decide)
  refine tf_re (sp_63 (hts.fr e16 e20) l2) ?_
  have q2 : xq G1 G2 := xq.of fun k hk => f2 k (by omega) (by omega) (by omega)
  have t2 := t1.k (G' := G2) fun k hk => f2 k (by omega) (by omega) (by omega)
  refine Or.inl ⟨_, rfl, ha, (h.qT (q1.trans q2) t2).X, q1.trans q2, t1.an ?_⟩
  refine mf_cnt_congr ?_
  intro y y0 y1
  rw [r2 y (mf_nat_dom y0 y1), e16]
  constructor
  · exact fun g => ⟨g.1, Or.inr g.2⟩
  · rintro ⟨g1, g2⟩
    refine ⟨g1, ?_⟩
    rcases g2 with g2 | g2
    · omega
    · exact g2
theorem sx_11 (h : XI L R m D G) {a : Int} : tf_RUN l 11 [tf_r 0, tf_i a] G (tf_XI (mf_dom (G 1 0) a) (xA L R m D G (mf_dom (G 1 0) a) (Qwith 0 a)) G) := by
  obtain ⟨g, mr, P, W, S, RT, DP, h⟩ := h
  refine vc_11 ⟨⟨by decide, by decide⟩, tf_r20 (fun ha => ?_) (fun ha => Or.inr ⟨rfl, ha, rfl⟩)⟩
  refine tf_ri (sx_51 h ha) fun r1 G1 h1 => ?_
  obtain ⟨e1, q1, t1⟩ := h1
  subst e1
  have hts := t1.2.2.1.ts t1.1
  refine tf_rv (sp_62 hts (t1.dom ha)) fun G2 h2 => ?_
  obtain ⟨f2, l2, r2⟩ := h2
  have q2 : xq G1 G2 := xq.of fun k hk => f2 k (by omega) (by omega) (by omega)
  have t2 := t1.k (G' := G2) fun k hk => f2 k (by omega) (by omega) (by omega)
  refine Or.inl ⟨_, rfl, ha, (h.qT (q1.trans q2) t2).X, q1.trans q2, t1.an ?_⟩
  unfold Qwith
  rw [l2.1]
  refine mf_cnt_congr ?_
  intro y y0 y1
  rw [r2 y (mf_nat_dom y0 y1)]
  exact ⟨fun g => ⟨g, Or.inl rfl⟩, fun g => g.1⟩
theorem sx_12 (h : XI L R m D G) {a b : Int} : tf_RUN l 12 [tf_r 0, tf_i a, tf_i b] G (tf_XI (mf_dom (G 1 0) a ∧ mf_dom (G 1 0) b) (xA L R m D G (mf_dom (G 1 0) a ∧ mf_dom (G 1 0) b) (Qinst a b)) G) := by
  obtain ⟨g, mr, P, W, S, RT, DP, h⟩ := h
  refine vc_12 ⟨⟨by decide, by decide⟩, tf_r21 (fun hab => ?_) (fun hab => Or.inr ⟨rfl, hab, rfl⟩)⟩
  refine tf_ri (sx_51 h hab.1) fun r1 G1 h1 => ?_
  obtain ⟨e1, q1, t1⟩ := h1
  refine tf_re (sx_51' t1 hab.2) ?_
  subst e1
  refine tf_ri (sp_65 (t1.2.2.1.ts t1.1) (t1.2.2.1.tmax t1.1) (t1.dom hab.1) (t1.dom hab.2)) fun r2 G2 h2 => ?_
  obtain ⟨f2, r2'⟩ := h2
  have q2 : xq G1 G2 := xq.of fun k hk => f2 k (by omega) (by omega) (by omega)
  have t2 := t1.k (G' := G2) fun k hk => f2 k (by omega) (by omega) (by omega)
  exact ⟨by rcases r2' with q | q <;> omega, Or.inl ⟨_, rfl, hab, (h.qT (q1.trans q2) t2).X, q1.trans q2, t1.an r2'⟩⟩
theorem sx_13 (h : XI L R m D G) {a b : Int} : tf_RUN l 13 [tf_r 0, tf_i a, tf_i b] G (tf_XI (mf_dom (G 1 0) a ∧ mf_dom (G 1 0) b) (xA L R m D G (mf_dom (G 1 0) a ∧ mf_dom (G 1 0) b) (Qvari a b)) G) := by
  obtain ⟨g, mr, P, W, S, RT, DP, h⟩ := h
  refine vc_13 ⟨⟨by decide, by decide⟩, tf_r21 (fun hab => ?_) (fun hab => Or.inr ⟨rfl, hab, rfl⟩)⟩
  refine tf_ri (sx_51 h hab.1) fun r1 G1 h1 => ?_
  obtain ⟨e1, q1, t1⟩ := h1
  refine tf_re (sx_51' t1 hab.2) ?_
  subst e1
  refine tf_ri (sp_65 (t1.2.2.1.ts t1.1) (t1.2.2.1.tmax t1.1) (t1.dom hab.1) (t1.dom hab.2)) fun r2 G2 h2 => ?_
  obtain ⟨f2, r2'⟩ := h2
  have q2 : xq G1 G2 := xq.of fun k hk => f2 k (by omega) (by omega) (by omega)
  have t2 := t1.k (G' := G2) fun k hk => f2 k (by omega) (by omega) (by omega)
  refine ⟨fun q => ⟨Or.inl rfl, Or.inl ⟨_, rfl, hab, (h.qT (q1.trans q2) t2).X, q1.trans q2, t1.an (Or.inr ⟨rfl, fun g => ?_⟩)⟩⟩, fun q => ?_⟩
  · rcases r2' with r | r
    · omega
    · exact r.2 g.1
  · have m1 : tmatch (G1 15 0) (G1 16) (xB G1) (G1 26 (RT g a)) (G1 26 (RT g b)) := by
      rcases r2' with r | r
      · exact r.2
      · omega
    have e15 : G2 15 = G1 15 := f2 15 (by decide) (by decide) (by decide)
    have e16 : G2 16 = G1 16 := f2 16 (by decide) (by decide) (by decide)
    have e20 : xB G2 = xB G1 := xB_eq (f2 20 (by decide) (by decide) (by decide))
    have e26 : G2 26 = G1 26 := f2 26 (by decide) (by decide) (by decide)
    refine tf_ri (sp_65 (t2.2.2.1.ts t2.1) (t2.2.2.1.tmax t2.1) (by rw [e15]; exact t1.dom hab.2) (by rw [e15]; exact t1.dom hab.1)) fun r3 G3 h3 => ?_
    obtain ⟨f3, r3'⟩ := h3
    rw [e15, e16, e20] at r3'
    have q3 : xq G2 G3 := xq.of fun k hk => f3 k (by omega) (by omega) (by omega)
    have t3 := t2.k (G' := G3) fun k hk => f3 k (by omega) (by omega) (by omega)
    refine ⟨fun q => ⟨Or.inl rfl, Or.inl ⟨_, rfl, hab, (h.qT ((q1.trans q2).trans q3) t3).X, (q1.trans q2).trans q3, t1.an (Or.inr ⟨rfl, fun g => ?_⟩)⟩⟩, fun q => ⟨Or.inr rfl, Or.inl ⟨_, rfl, hab, (h.qT ((q1.trans q2).trans q3) t3).X, (q1.trans q2).trans q3, t1.an (Or.inl ⟨rfl, m1, ?_⟩)⟩⟩⟩
    · rcases r3' with r | r
      · omega
      · exact r.2 g.2
    · rcases r3' with r | r
      · exact r.2
      · omega
theorem sx_14 (h : XI L R m D G) {a b w : Int} : tf_RUN l 14 [tf_r 0, tf_i a, tf_i b, tf_i w] G (tf_XI ((mf_dom (G 1 0) a ∧ mf_dom (G 1 0) b) ∧ (w = 0 ∨ w = 1)) (xA L R m D G ((mf_dom (G 1 0) a ∧ mf_dom (G 1 0) b) ∧ (w = 0 ∨ w = 1)) (Qcom a b w)) G) := by
  obtain ⟨g, mr, P, W, S, RT, DP, h⟩ := h
  refine vc_14 ⟨⟨by decide, by decide⟩, tf_r21 (fun hab => ?_) (fun hab => Or.inr ⟨rfl, fun g => hab g.1, rfl⟩)⟩
  refine ⟨fun q => ?_, fun q => ⟨fun q' => ?_, fun q' => ⟨⟨by decide, by decide⟩, Or.inr ⟨rfl, fun g => by have := g.2; omega, rfl⟩⟩⟩⟩
  · refine tf_ri (sx_51 h hab.1) fun r1 G1 h1 => ?_
    obtain ⟨e1, q1, t1⟩ := h1
    refine tf_re (sx_51' t1 hab.2) ?_
    subst e1
    refine tf_rv (sp_68 (t1.2.2.1.ts t1.1) (t1.dom hab.1) (t1.dom hab.2) (q1.2 h.i0)) fun G2 h2 => ?_
    obtain ⟨f2, ⟨r2, r3⟩, r4⟩ := h2
    have q2 : xq G1 G2 := ⟨fun k hk => f2 k (by omega) (by omega) (by omega) (by omega) (by omega), fun _ => r4⟩
    have t2 := t1.k (G' := G2) fun k hk => f2 k (by omega) (by omega) (by omega) (by omega) (by omega)
    subst q
    exact ⟨fun g => absurd rfl g, fun _ => Or.inl ⟨_, rfl, ⟨hab, Or.inl rfl⟩, (h.qT (q1.trans q2) t2).X, q1.trans q2, t1.an r2⟩⟩
  · refine tf_ri (sx_51 h hab.1) fun r1 G1 h1 => ?_
    obtain ⟨e1, q1, t1⟩ := h1
    refine tf_re (sx_51' t1 hab.2) ?_
    subst e1
    refine tf_rv (sp_68 (t1.2.2.1.ts t1.1) (t1.dom hab.1) (t1.dom hab.2) (q1.2 h.i0)) fun G2 h2 => ?_
    obtain ⟨f2, ⟨r2, r3⟩, r4⟩ := h2
    have q2 : xq G1 G2 := ⟨fun k hk => f2 k (by omega) (by omega) (by omega) (by omega) (by omega), fun _ => r4⟩
    have t2 := t1.k (G' := G2) fun k hk => f2 k (by omega) (by omega) (by omega) (by omega) (by omega)
    subst q'
    exact ⟨fun _ => Or.inl ⟨_, rfl, ⟨hab, Or.inr rfl⟩, (h.qT (q1.trans q2) t2).X, q1.trans q2, t1.an r3⟩, fun g => by omega⟩
end
