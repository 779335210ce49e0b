section
variable {l : Launch} {G G' : tf_Sto} {n : Int} {hd : Int → Int} {ch : Int → Int → Int} {L R : Int → Int} {m : Nat} {D D' : List Int} {g : Int} {mr : Int → Int} {P W S RT DP : Int → Int → Int}
def xSg (L R : Int → Int) (m : Nat) (D : List Int) (G : tf_Sto) (s k a b c : Int) : tf_Out → tf_Sto → Prop := fun o G' => (∃ r : Int, o = .inl (some (tf_i r)) ∧ sok (G 1 0) s k a b c ∧ G 1 0 < 300 ∧ r = G 1 0 ∧ XI L R m D G' ∧ xnw (s * 4 + k) a b c G G') ∨ (o = .inr 0 ∧ ¬ sok (G 1 0) s k a b c ∧ G' = G) ∨ (o = .inr 1 ∧ sok (G 1 0) s k a b c ∧ 300 ≤ G 1 0 ∧ G' = G)
theorem sx_1 (h : XI L R m D G) {s k a b c : Int} : tf_RUN l 1 [tf_r 0, tf_i s, tf_i k, tf_i a, tf_i b, tf_i c] G (xSg L R m D G s k a b c) := by
  have fin : sok (G 1 0) s k a b c → tf_RUN l 19 [tf_r 0] G (fun o1 G2 => (o1 = .inl none ∧ (tf_RUN l 22 [tf_i s, tf_i k] G2 (fun o4 G5 => ∃ r6 : Int, o4 = .inl (some (tf_i r6)) ∧ (tf_RUN l 25 [tf_r 1, tf_i r6, tf_i a, tf_i b, tf_i c] G5 (fun o7 G8 => ∃ r9 : Int, o7 = .inl (some (tf_i r9)) ∧ (tf_RUN l 18 [tf_r 0, tf_i r9] G8 (fun o10 G11 => ∃ r12 : Int, o10 = .inl (some (tf_i r12)) ∧ (xSg L R m D G s k a b c (.inl (some (tf_i r12))) G11)))))))) ∨ (o1 = .inr 0 ∧ (xSg L R m D G s k a b c (.inr 0) G2)) ∨ (o1 = .inr 1 ∧ (xSg L R m D G s k a b c (.inr 1) G2)) ∨ (o1 = .inr 2 ∧ (xSg L R m D G s k a b c (.inr 2) G2))) := by
    intro hs
    obtain ⟨s1, s2, s3, s4, s5⟩ := id hs
    refine tf_r19 (fun hn => ?_) (fun hn => Or.inr (Or.inr ⟨rfl, hs, hn, rfl⟩))
    refine tf_re (sp_22 ⟨s1.1, s1.2, s2.1, s2.2⟩) ?_
    have e4 : (s * 4 + k) % 4 = k := by omega
    refine (sx_add h hn (Or.inr ⟨by omega, by omega⟩) (fun _ => by rw [e4]; exact ⟨s3, s4, s5⟩)).mono ?_
    rintro o G1 ⟨r, e, h1⟩
    refine ⟨r, e, h1.mono ?_⟩
    rintro o G2 ⟨r, e, h1, h2, h3⟩
    exact ⟨r, e, Or.inl ⟨r, rfl, hs, hn, h1, h2, h3⟩⟩
  have bad : ¬ sok (G 1 0) s k a b c → xSg L R m D G s k a b c (.inr 0) G := fun q => Or.inr (Or.inl ⟨rfl, q, rfl⟩)
  refine vc_1 ⟨fun q => ⟨⟨by decide, by decide⟩, bad fun g => by have := g.1; omega⟩, fun q1 => ⟨fun q2 => ⟨fun q => ⟨⟨by decide, by decide⟩, bad fun g => by have := g.2.1; omega⟩, fun q3 => ⟨fun q4 => ⟨fun k0 => ⟨fun k1 => ⟨fun k2 => ?_, fun k2 => by omega⟩, fun k1 => by omega⟩, fun k0 => ?_⟩, fun q => ⟨⟨by decide, by decide⟩, bad fun g => by have := g.2.1; omega⟩⟩⟩, fun q => ⟨⟨by decide, by decide⟩, bad fun g => by have := g.1; omega⟩⟩⟩
  · exact ⟨⟨by decide, by decide⟩, fin ⟨⟨q1, q2⟩, ⟨q3, q4⟩, fun g => by omega, fun g => by omega, fun g => by omega⟩⟩
  · refine ⟨⟨by decide, by decide⟩, tf_r20 (fun ha => ?_) (fun ha => bad fun g => ha (g.2.2.1 k0))⟩
    refine ⟨fun k1 => ⟨fun k2 => ⟨⟨by decide, by decide⟩, fin ⟨⟨q1, q2⟩, ⟨q3, q4⟩, fun _ => ha, fun g => by omega, fun g => by omega⟩⟩, fun k2 => by omega⟩, fun k1 => ?_⟩
    refine ⟨⟨by decide, by decide⟩, tf_r20 (fun hb => ?_) (fun hb => bad fun g => hb (g.2.2.2.1 k1))⟩
    refine ⟨fun k2 => ⟨⟨by decide, by decide⟩, fin ⟨⟨q1, q2⟩, ⟨q3, q4⟩, fun _ => ha, fun _ => hb, fun g => by omega⟩⟩, fun k2 => ?_⟩
    refine ⟨⟨by decide, by decide⟩, tf_r20 (fun hc => ?_) (fun hc => bad fun g => hc (g.2.2.2.2 k2))⟩
    exact ⟨⟨by decide, by decide⟩, fin ⟨⟨q1, q2⟩, ⟨q3, q4⟩, fun _ => ha, fun _ => hb, fun _ => hc⟩⟩
def lup (L : Int → Int) (m : Nat) (a : Int) : Int → Int := fun j => if j = (m : Int) then a else L j
theorem lup_E {a b : Int} {i : Nat} (h : i ≤ m) : mf_E (lup L m a) (lup R m b) i = mf_E L R i := by
  refine mf_E_congr fun j j0 j1 => ?_
  unfold lup
  rw [if_neg (by omega), if_neg (by omega)]
  exact ⟨rfl, rfl⟩
theorem lup_E1 {a b : Int} : mf_E (lup L m a) (lup R m b) (m + 1) = mf_E L R m ++ [(a, b)] := by
  simp only [mf_E]
  rw [lup_E (Nat.le_refl _)]
  unfold lup
  rw [if_pos rfl, if_pos rfl]
def xjf (G G' : tf_Sto) : Prop := ∀ k : Nat, ((1 ≤ k ∧ k ≤ 3) ∨ (11 ≤ k ∧ k ≤ 14) ∨ 28 < k) → G' k = G k
theorem hdok (h : gd n hd ch L R m g mr P W S RT DP) : ∀ t, mf_dom n t → hd t = -1 ∨ 0 ≤ hd t := by
  intro t ht
  rcases (h.2.2.2.1 t ht).1 with q | q
  · exact Or.inl q
  · exact Or.inr q.1
/-- going back to where it was -/
theorem XD.back (h : XD L R m D g mr P W S RT DP G) (hu : xu (G 1 0) g mr P W S G') (hk : ∀ k : Nat, (k < 4 ∨ 10 < k) → G' k = G k) : XD L R m D g mr P W S RT DP G' := by
  obtain ⟨a1, a2, a3, a4, a5, a6⟩ := h
  have hf : G' 24 8 ≠ 0 → xFV (G 1 0) (G 2) (xC G) (RT g) (S g) G' := by
    rw [hk 24 (by decide)]
    exact fun q => (a5 q).fr fun k k1 k2 => hk k (by omega)
  unfold XD xout
  rw [xC_eq (hk 3 (by decide)), hk 0 (by decide), hk 1 (by decide), hk 2 (by decide), hk 11 (by decide), hk 12 (by decide), hk 13 (by decide), hk 14 (by decide), hk 38 (by decide), hk 39 (by decide)]
  exact ⟨a1, hu, a3, a4, hf, a6.1, a6.2.1, a6.2.2.1, a6.2.2.2.1, a6.2.2.2.2.fr (by rw [hk 35 (by decide)]) (hk 68 (by decide)) (hk 69 (by decide))⟩
theorem xu_pre {g0 : Int} {mr0 : Int → Int} {P0 W0 S0 RT0 DP0 : Int → Int → Int} (hp : xpre g0 mr0 mr P0 W0 S0 RT0 DP0 P W S RT DP) (h : xu n g0 mr P W S G) : xu n g0 mr0 P0 W0 S0 G := by
  obtain ⟨h1, h2, h3⟩ := h
  obtain ⟨e1, e2, e3, _, _⟩ := hp.1 g0 (Int.le_refl _)
  rw [e1, e2, e3] at h2
  exact ⟨h1, h2, fun i i0 i1 => by rw [h3 i i0 i1, hp.2 i i0 i1]⟩
theorem sx_3 (h : XI L R m D G) {a b : Int} : tf_RUN l 3 [tf_r 0, tf_i a, tf_i b] G (tf_XI (mf_dom (G 1 0) a ∧ mf_dom (G 1 0) b) (fun r G' => (mf_dom (G 1 0) a ∧ mf_dom (G 1 0) b) ∧ xjf G G' ∧ XI L R m D G' ∧ Mhold (G 1 0) (G 2) (xC G) (mf_E L R m) a b r) G) := by
  obtain ⟨g, mr, P, W, S, RT, DP, h⟩ := h
  refine vc_3 ⟨⟨by decide, by decide⟩, tf_r21 (fun hab => ?_) (fun hab => Or.inr ⟨rfl, hab, rfl⟩)⟩
  obtain ⟨a1, a2, a3, a4, a5, a6⟩ := id h
  obtain ⟨b1, b2, b3, b4, b5, b6, b7⟩ := id a1
  refine tf_ri (sp_30 b1 b2 b3 b4 a2 (fun _ _ => rfl) (fun _ _ => rfl) b5 b6 b7 hab.1 hab.2) fun r G1 h1 => ?_
  obtain ⟨f1, g1, mr1, P1, W1, S1, RT1, DP1, k1, k2, k3, k4, k5⟩ := h1
  rw [a2.1]
  refine tf_rv (sp_31 k2 b3 (hdok a1) k3 ⟨b2, k1⟩) fun G2 h2 => ?_
  obtain ⟨u2, f2⟩ := h2
  have hk : ∀ k : Nat, (k < 4 ∨ 10 < k) → G2 k = G k := fun k hk => (f2 k hk).trans (f1 k hk)
  refine ⟨by rcases k5 with q | q <;> omega, Or.inl ⟨r, rfl, hab, fun k q => hk k (by omega), (h.back (xu_pre k4 u2) hk).X, ?_⟩⟩
  rcases k5 with q | q
  · exact Or.inl ⟨q.1, q.2.2⟩
  · exact Or.inr q
theorem sx_2 (h : XI L R m D G) (hm : m ≤ 4999) {a b : Int} : tf_RUN l 2 [tf_r 0, tf_i a, tf_i b] G (tf_XI (mf_dom (G 1 0) a ∧ mf_dom (G 1 0) b) (fun r G' => (mf_dom (G 1 0) a ∧ mf_dom (G 1 0) b) ∧ xjf G G' ∧ ((r = 1 ∧ mf_con (G 1 0) (G 2) (xC G) (mf_E L R m ++ [(a, b)]) ∧ XI (lup L m a) (lup R m b) (m + 1) D G') ∨ (r = 0 ∧ ¬ mf_con (G 1 0) (G 2) (xC G) (mf_E L R m ++ [(a, b)]) ∧ XI L R m D G'))) G) := by
  obtain ⟨g, mr, P, W, S, RT, DP, h⟩ := h
  refine vc_2 ⟨⟨by decide, by decide⟩, tf_r21 (fun hab => ?_) (fun hab => Or.inr ⟨rfl, hab, rfl⟩)⟩
  obtain ⟨a1, a2, a3, a4, a5, a6⟩ := id h
  obtain ⟨b1, b2, b3, b4, b5, b6, b7⟩ := id a1
  refine tf_ri (sp_30 b1 b2 b3 b4 a2 (fun _ _ => rfl) (fun _ _ => rfl) b5 b6 b7 hab.1 hab.2) fun r G1 h1 => ?_
  obtain ⟨f1, g1, mr1, P1, W1, S1, RT1, DP1, k1, k2, k3, k4, k5⟩ := h1
  rw [a2.1]
  have e09 : G1 0 9 = m := by rw [f1 0 (by decide)]; exact a3
  refine ⟨fun q => ?_, fun q => ?_⟩
  · rcases k5 with k5 | k5
    · obtain ⟨_, k6, k7⟩ := k5
      rw [e09, k3.1]
      have g1d : gd (G 1 0) (G 2) (xC G) (lup L m a) (lup R m b) (m + 1) g1 mr1 P1 W1 S1 RT1 DP1 := by
        refine ⟨k2, by omega, b3, b4, ?_, by rw [lup_E1]; exact k6, by rw [lup_E1]; exact k7⟩
        rw [lup_E1]
        intro q hq
        rcases List.mem_append.1 hq with hq | hq
        · exact b5 q hq
        · rw [List.mem_singleton.1 hq]
          exact hab
      have lv : lvO (G 1 0) (G 2) (xC G) (lup L m a) (lup R m b) (m + 1) g1 mr1 P1 W1 S1 RT1 DP1 (G 12) (G 13) (G 14) (G 11 0) := by
        refine a4.congr (fun _ _ => rfl) (fun _ _ _ _ _ => rfl) (fun i hi => lup_E hi) (fun i _ i1 t _ => ?_) (fun i i0 i1 => k4.2 i i0 i1) (Int.le_refl _) (by omega) k1
        obtain ⟨p1, p2, p3, p4, p5⟩ := k4.1 i i1
        rw [p1, p2, p3, p4, p5]
        exact ⟨rfl, rfl, rfl, rfl, rfl⟩
      have mk : ∀ (G2 : tf_Sto), (∀ k : Nat, k ≠ 0 → k ≠ 24 → G2 k = G1 k) → G2 0 9 = ((m : Int) + 1) → (G2 24 8 ≠ 0 → xFV (G 1 0) (G 2) (xC G) (RT1 g1) (S1 g1) G2) → XI (lup L m a) (lup R m b) (m + 1) D G2 := by
        intro G2 hk e0 hf
        have hk2 : ∀ k : Nat, k ≠ 0 → k ≠ 24 → (k < 4 ∨ 10 < k) → G2 k = G k := fun k q1 q2 q3 => (hk k q1 q2).trans (f1 k q3)
        refine ⟨g1, mr1, P1, W1, S1, RT1, DP1, ?_⟩
        unfold XD xout xu
        rw [xC_eq (hk2 3 (by decide) (by decide) (by decide)), hk2 1 (by decide) (by decide) (by decide), hk2 2 (by decide) (by decide) (by decide), hk2 11 (by decide) (by decide) (by decide), hk2 12 (by decide) (by decide) (by decide), hk2 13 (by decide) (by decide) (by decide), hk2 14 (by decide) (by decide) (by decide), hk2 38 (by decide) (by decide) (by decide), hk2 39 (by decide) (by decide) (by decide), hk 4 (by decide) (by decide), hk 5 (by decide) (by decide), hk 6 (by decide) (by decide), hk 7 (by decide) (by decide), hk 8 (by decide) (by decide)]
        exact ⟨g1d, k3, by rw [e0]; omega, lv, hf, a6.1, a6.2.1, a6.2.2.1, a6.2.2.2.1, a6.2.2.2.2.fr (by rw [hk2 35 (by decide) (by decide) (by decide)]) (hk2 68 (by decide) (by decide) (by decide)) (hk2 69 (by decide) (by decide) (by decide))⟩
      refine ⟨⟨by omega, by omega⟩, fun q1 => ⟨Or.inr rfl, Or.inl ⟨1, rfl, hab, fun k hk => ?_, Or.inl ⟨rfl, k7, mk _ (fun k q1 _ => tf_upo q1) tf_up_at fun hq => ?_⟩⟩⟩, fun q1 => ?_⟩
      · rw [tf_upo (by omega)]
        exact f1 k (by omega)
      · have eg : g1 = g := by omega
        subst eg
        obtain ⟨p1, p2, p3, p4, p5⟩ := k4.1 g1 (Int.le_refl _)
        rw [p3, p4]
        rw [tf_upo' (by decide), f1 24 (by decide)] at hq
        exact (a5 hq).fr fun k k1 k2 => by rw [tf_upo (by omega), f1 k (by omega)]
      · refine tf_rv sp_50 fun G2 h2 => ⟨Or.inr rfl, ?_⟩
        subst h2
        refine Or.inl ⟨1, rfl, hab, fun k hk => ?_, Or.inl ⟨rfl, k7, mk _ (fun k q1 q2 => by rw [tf_upo q2, tf_upo q1]) (by rw [tf_upo' (by decide), tf_up_at]) fun hq => absurd tf_up_at hq⟩⟩
        rw [tf_upo (by omega), tf_upo (by omega)]
        exact f1 k (by omega)
    · omega
  · rcases k5 with k5 | k5
    · omega
    · refine tf_rv (sp_31 k2 b3 (hdok a1) k3 ⟨b2, k1⟩) fun G2 h2 => ?_
      obtain ⟨u2, f2⟩ := h2
      have hk : ∀ k : Nat, (k < 4 ∨ 10 < k) → G2 k = G k := fun k hk => (f2 k hk).trans (f1 k hk)
      exact ⟨Or.inl rfl, Or.inl ⟨0, rfl, hab, fun k q => hk k (by omega), Or.inr ⟨rfl, k5.2, (h.back (xu_pre k4 u2) hk).X⟩⟩⟩
theorem sx_4 (h : XI L R m D G) : tf_RUN l 4 [tf_r 0] G (fun o G' => (∃ r : Int, o = .inl (some (tf_i r)) ∧ G 11 0 < 20 ∧ r = G 11 0 + 1 ∧ XI L R m D G' ∧ (∀ k : Nat, (k < 11 ∨ 14 < k) → G' k = G k) ∧ G' 11 0 = G 11 0 + 1 ∧ (∀ j, G' 12 j = if j = G 11 0 then G 1 0 else G 12 j) ∧ (∀ j, G' 13 j = if j = G 11 0 then (m : Int) else G 13 j)) ∨ (o = .inr 1 ∧ 20 ≤ G 11 0 ∧ G' = G)) := by
  obtain ⟨g, mr, P, W, S, RT, DP, h⟩ := h
  obtain ⟨a1, a2, a3, a4, a5, a6⟩ := id h
  have hl := a4.1
  refine vc_4 ⟨fun q => ?_, fun q => ⟨⟨by decide, by decide⟩, Or.inr ⟨rfl, q, rfl⟩⟩⟩
  refine vc_36 ⟨⟨hl.1, q⟩, ⟨hl.1, q⟩, ⟨hl.1, q⟩, ⟨by omega, by omega⟩, rfl, ?_⟩
  rw [a3, a2.1]
  generalize hG : tf_up (tf_up (tf_up (tf_up G 12 (G 11 0) (G 1 0)) 13 (G 11 0) (m : Int)) 14 (G 11 0) g) 11 0 (G 11 0 + 1) = G1
  have k : ∀ k : Nat, (k < 11 ∨ 14 < k) → G1 k = G k := by
    intro k hk
    rw [← hG, tf_upo (by omega), tf_upo (by omega), tf_upo (by omega), tf_upo (by omega)]
  have k11 : G1 11 0 = G 11 0 + 1 := by rw [← hG, tf_up_at]
  have k12 : ∀ j, G1 12 j = if j = G 11 0 then G 1 0 else G 12 j := by
    intro j
    rw [← hG]
    simp only [tf_upo, tf_upo', tf_up_eq, ne_eq, Nat.reduceEqDiff, not_false_eq_true, reduceCtorEq]
  have k13 : ∀ j, G1 13 j = if j = G 11 0 then (m : Int) else G 13 j := by
    intro j
    rw [← hG]
    simp only [tf_upo, tf_upo', tf_up_eq, ne_eq, Nat.reduceEqDiff, not_false_eq_true, reduceCtorEq]
  have k14 : ∀ j, G1 14 j = if j = G 11 0 then g else G 14 j := by
    intro j
    rw [← hG]
    simp only [tf_upo, tf_upo', tf_up_eq, ne_eq, Nat.reduceEqDiff, not_false_eq_true, reduceCtorEq]
  refine Or.inl ⟨_, rfl, q, k11, ⟨g, mr, P, W, S, RT, DP, ?_⟩, k, k11, k12, k13⟩
  have hf : G1 24 8 ≠ 0 → xFV (G 1 0) (G 2) (xC G) (RT g) (S g) G1 := by
    rw [k 24 (by decide)]
    exact fun q => (a5 q).fr fun i i1 i2 => k i (by omega)
  have lv : lvO (G 1 0) (G 2) (xC G) L R m g mr P W S RT DP (G1 12) (G1 13) (G1 14) (G1 11 0) := by
    rw [k11]
    refine ⟨⟨by omega, by omega⟩, ?_⟩
    intro j hj
    have j0 := hj.1
    have j1 := hj.2
    by_cases e : j = G 11 0
    · rw [k12, k13, k14, if_pos e, if_pos e, if_pos e]
      refine ⟨by rw [Int.toNat_natCast]; exact a1, ⟨by omega, by omega⟩, by omega, by omega, ?_⟩
      intro i i0 i1
      have : i = G 11 0 := by omega
      rw [k12, k13, k14, if_pos this, if_pos this, if_pos this]
      exact ⟨by omega, by omega, by omega⟩
    · rw [k12, k13, k14, if_neg e, if_neg e, if_neg e]
      obtain ⟨c1, c2, c3, c4, c5⟩ := a4.2 j ⟨j0, by omega⟩
      refine ⟨c1, c2, c3, c4, ?_⟩
      intro i i0 i1
      rw [k12, k13, k14]
      by_cases e' : i = G 11 0
      · rw [if_pos e', if_pos e', if_pos e']
        exact ⟨c3, c2.2, c4⟩
      · rw [if_neg e', if_neg e', if_neg e']
        exact c5 i i0 (by omega)
  unfold XD xout xu
  rw [xC_eq (k 3 (by decide)), k 0 (by decide), k 1 (by decide), k 2 (by decide), k 4 (by decide), k 5 (by decide), k 6 (by decide), k 7 (by decide), k 8 (by decide), k 38 (by decide), k 39 (by decide)]
  exact ⟨a1, a2, a3, lv, hf, a6.1, a6.2.1, a6.2.2.1, a6.2.2.2.1, a6.2.2.2.2.fr (by rw [k 35 (by decide)]) (k 68 (by decide)) (k 69 (by decide))⟩
theorem sx_5 (h : XI L R m D G) (hm : m ≤ 4999) : tf_RUN l 5 [tf_r 0] G (fun o G' => (∃ r : Int, o = .inl (some (tf_i r)) ∧ 0 < G 11 0 ∧ r = (m : Int) - G 13 (G 11 0 - 1) ∧ XI L R (G 13 (G 11 0 - 1)).toNat D G' ∧ (0 ≤ G 13 (G 11 0 - 1) ∧ G 13 (G 11 0 - 1) ≤ m) ∧ G 12 (G 11 0 - 1) ≤ G 1 0 ∧ (∀ k : Nat, ((2 ≤ k ∧ k ≤ 3) ∨ (12 ≤ k ∧ k ≤ 14) ∨ 28 < k) → G' k = G k) ∧ G' 11 0 = G 11 0 - 1 ∧ G' 1 0 = G 12 (G 11 0 - 1)) ∨ (o = .inr 1 ∧ G 11 0 ≤ 0 ∧ G' = G)) := by
  obtain ⟨g, mr, P, W, S, RT, DP, h⟩ := h
  obtain ⟨a1, a2, a3, a4, a5, a6⟩ := id h
  have hl := a4.1
  refine vc_5 ⟨fun q => ?_, fun q => ⟨⟨by decide, by decide⟩, Or.inr ⟨rfl, q, rfl⟩⟩⟩
  obtain ⟨c1, c2, c3, c4, c5⟩ := a4.2 (G 11 0 - 1) ⟨by omega, by omega⟩
  refine vc_37 ⟨⟨by omega, by omega⟩, rfl, ?_⟩
  have e11 : tf_up G 11 0 (G 11 0 - 1) 11 0 = G 11 0 - 1 := tf_up_at
  have e09 : tf_up G 11 0 (G 11 0 - 1) 0 9 = (m : Int) := by rw [tf_upo' (by decide)]; exact a3
  have e13 : tf_up G 11 0 (G 11 0 - 1) 13 = G 13 := tf_upo (by decide)
  refine vc_39 ⟨by rw [e11]; exact ⟨by omega, by omega⟩, _, rfl, ?_⟩
  rw [e11, e13, e09]
  refine ⟨⟨by omega, by omega⟩, ?_⟩
  refine vc_39 ⟨by rw [e11]; exact ⟨by omega, by omega⟩, _, rfl, ?_⟩
  rw [e11, e13]
  generalize hG2 : tf_up (tf_up G 11 0 (G 11 0 - 1)) 0 9 (G 13 (G 11 0 - 1)) = G2
  have k2 : ∀ k : Nat, k ≠ 0 → k ≠ 11 → G2 k = G k := fun k q1 q2 => by rw [← hG2, tf_upo q1, tf_upo q2]
  have e112 : G2 11 0 = G 11 0 - 1 := by rw [← hG2, tf_upo' (by decide), tf_up_at]
  have e092 : G2 0 9 = G 13 (G 11 0 - 1) := by rw [← hG2, tf_up_at]
  refine vc_40 ⟨by rw [e112]; exact ⟨by omega, by omega⟩, _, rfl, ?_⟩
  rw [e112, k2 14 (by decide) (by decide)]
  have u2 : xu (G 1 0) g mr P W S G2 := by
    unfold xu
    rw [k2 4 (by decide) (by decide), k2 5 (by decide) (by decide), k2 6 (by decide) (by decide), k2 7 (by decide) (by decide), k2 8 (by decide) (by decide)]
    exact a2
  refine tf_rv (sp_31 a1.1 a1.2.2.1 (hdok a1) u2 ⟨c1.2.1, c4⟩) fun G3 h3 => ?_
  obtain ⟨u3, f3⟩ := h3
  have e113 : G3 11 0 = G 11 0 - 1 := by rw [f3 11 (by decide), e112]
  refine vc_38 ⟨by rw [e113]; exact ⟨by omega, by omega⟩, _, rfl, ?_⟩
  rw [e113, f3 12 (by decide), k2 12 (by decide) (by decide)]
  refine tf_rv sp_50 fun G4 h4 => ?_
  have k4 : ∀ k : Nat, k ≠ 0 → k ≠ 11 → k ≠ 1 → k ≠ 24 → (k < 4 ∨ 10 < k) → G4 k = G k := fun k q1 q2 q3 q4 q5 => by rw [h4, tf_upo q4, tf_upo q3, f3 k q5, k2 k q1 q2]
  have e114 : G4 11 0 = G 11 0 - 1 := by rw [h4, tf_upo' (by decide), tf_upo' (by decide), e113]
  have e14 : G4 1 0 = G 12 (G 11 0 - 1) := by rw [h4, tf_upo' (by decide), tf_up_at]
  have e04 : G4 0 9 = G 13 (G 11 0 - 1) := by rw [h4, tf_upo' (by decide), tf_upo' (by decide), f3 0 (by decide), e092]
  refine Or.inl ⟨_, rfl, q, rfl, ⟨G 14 (G 11 0 - 1), mr, P, W, S, RT, DP, ?_⟩, c2, c3, fun k hk => k4 k (by omega) (by omega) (by omega) (by omega) (by omega), e114, e14⟩
  have lv : lvO (G 12 (G 11 0 - 1)) (G 2) (xC G) L R (G 13 (G 11 0 - 1)).toNat (G 14 (G 11 0 - 1)) mr P W S RT DP (G 12) (G 13) (G 14) (G 11 0 - 1) := by
    refine ⟨⟨by omega, by omega⟩, ?_⟩
    intro j hj
    have j0 := hj.1
    have j1 := hj.2
    obtain ⟨d1, d2, d3, d4, d5⟩ := a4.2 j ⟨j0, by omega⟩
    obtain ⟨d6, d7, d8⟩ := d5 (G 11 0 - 1) (by omega) (by omega)
    exact ⟨d1, ⟨d2.1, by omega⟩, d6, d8, fun i i0 i1 => d5 i i0 (by omega)⟩
  have u4 : xu (G 12 (G 11 0 - 1)) (G 14 (G 11 0 - 1)) mr P W S G4 := by
    unfold xu
    rw [h4, tf_upo (by decide), tf_upo (by decide), tf_upo (by decide), tf_upo (by decide), tf_upo (by decide), tf_upo (by decide), tf_upo (by decide), tf_upo (by decide), tf_upo (by decide), tf_upo (by decide)]
    exact ⟨u3.1, fun t ht => u3.2.1 t ⟨ht.1, by have := ht.2; omega⟩, u3.2.2⟩
  unfold XD xout
  rw [xC_eq (k4 3 (by decide) (by decide) (by decide) (by decide) (by decide)), e14, k4 2 (by decide) (by decide) (by decide) (by decide) (by decide), e114, k4 12 (by decide) (by decide) (by decide) (by decide) (by decide), k4 13 (by decide) (by decide) (by decide) (by decide) (by decide), k4 14 (by decide) (by decide) (by decide) (by decide) (by decide), k4 38 (by decide) (by decide) (by decide) (by decide) (by decide), k4 39 (by decide) (by decide) (by decide) (by decide) (by decide), e04]
  refine ⟨c1, u4, by omega, lv, fun hq => absurd (by rw [h4, tf_up_at]) hq, a6.1, a6.2.1, a6.2.2.1, a6.2.2.2.1, a6.2.2.2.2.fr (by rw [k4 35 (by decide) (by decide) (by decide) (by decide) (by decide)]) (k4 68 (by decide) (by decide) (by decide) (by decide) (by decide)) (k4 69 (by decide) (by decide) (by decide) (by decide) (by decide))⟩
end
