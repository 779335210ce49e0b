-- SPEC H: the reference: trees
section
variable {l : Launch} {G : tf_Sto} {n : Int} {hd : Int → Int} {ch : Int → Int → Int} {E : List (Int × Int)}
/-- the terms and their classes, as the reference holds them -/
def ms (n : Int) (hd : Int → Int) (ch : Int → Int → Int) (G : tf_Sto) : Prop := mv n hd ch G ∧ (0 ≤ n ∧ n ≤ 300) ∧ mf_wf n hd ch ∧ mf_par n hd (G 50) (G 51)
theorem ms.fr {G' : tf_Sto} (h : ms n hd ch G) (e1 : G' 42 1 = G 42 1) (e2 : G' 43 = G 43) (e3 : G' 44 = G 44) (e4 : G' 45 = G 45) (e5 : G' 50 = G 50) (e6 : G' 51 = G 51) : ms n hd ch G' :=
  ⟨h.1.fr e1 e2 e3 e4, h.2.1, h.2.2.1, by rw [e5, e6]; exact h.2.2.2⟩
theorem ms.b {t : Int} (h : ms n hd ch G) (ht : mf_dom n t) : (0 ≤ t ∧ t < 300) ∧ (0 ≤ G 50 t ∧ G 50 t < 300) ∧ mf_dom n (G 50 t) := by
  have h1 := (h.2.2.2 t ht).1
  have h2 := h.2.1.2
  refine ⟨⟨ht.1, by have := ht.2; omega⟩, ⟨h1.1, by have := h1.2; omega⟩, h1⟩
theorem ms.sz {t : Int} (h : ms n hd ch G) (ht : mf_dom n t) (h0 : 0 ≤ hd t) : G 43 t = hd t / 4 ∧ G 44 t = hd t % 4 := by
  rcases (h.1.2 t ht).1 with q | q
  · omega
  · exact q.2.2
theorem sp_94 (h : ms n hd ch G) {t : Int} (ht : mf_dom n t) : tf_RUN l 94 [tf_r 42, tf_i t] G (tf_PI fun r G' => r = (if mh hd (G 50) (G 51) t = -1 then 1 else 0) ∧ G' = G) := by
  obtain ⟨b1, b2, b3⟩ := h.b ht
  rcases mh_in h.2.2.2 h.2.2.1 ht with ⟨q1, q2⟩ | ⟨q1, q2, q3, q4, q5⟩
  · rw [if_pos q1]
    exact vc_94 ⟨b1, b2, fun z => by omega, fun _ => ⟨by decide, tf_pi ⟨rfl, rfl⟩⟩⟩
  · rw [if_neg (by omega)]
    refine vc_94 ⟨b1, b2, fun z => ⟨by decide, tf_pi ⟨rfl, rfl⟩⟩, fun z => ?_⟩
    have := q4.1
    omega
theorem sp_93 (h : ms n hd ch G) {t : Int} (ht : mf_dom n t) : tf_RUN l 93 [tf_r 42, tf_i t] G (tf_PI fun r G' => r = mf_w (mh hd (G 50) (G 51) t) ∧ G' = G) := by
  obtain ⟨b1, b2, b3⟩ := h.b ht
  rcases mh_in h.2.2.2 h.2.2.1 ht with ⟨q1, q2⟩ | ⟨q1, q2, q3, q4, q5⟩
  · refine vc_93 ⟨b1, b2, fun z => by omega, fun _ => tf_pi ⟨?_, rfl⟩⟩
    unfold mf_w; rw [if_pos q1]
  · have h300 := h.2.1.2
    refine vc_93 ⟨b1, b2, fun z => ⟨b1, b2, ⟨q4.1, by have := q4.2; omega⟩, tf_pi ⟨?_, rfl⟩⟩, fun z => ?_⟩
    · unfold mf_w
      rw [if_neg (by omega), (h.sz q4 (by omega)).2, q5]
    · have := q4.1
      omega
theorem sp_92 (h : ms n hd ch G) {t k : Int} (ht : mf_dom n t) (k0 : 0 ≤ k) (k1 : k < mf_w (mh hd (G 50) (G 51) t)) : tf_RUN l 92 [tf_r 42, tf_i t, tf_i k] G (tf_PI fun r G' => r = mc ch (G 50) (G 51) t k ∧ G' = G) := by
  obtain ⟨b1, b2, b3⟩ := h.b ht
  obtain ⟨c1, c2, c3, c4, c5⟩ := mc_dom h.2.2.2 h.2.2.1 ht k0 k1
  have h300 := h.2.1.2
  have d1 := c3.1
  have d2 := c3.2
  refine vc_92 ⟨b1, b2, by omega, by omega, by omega, tf_pi ⟨?_, rfl⟩⟩
  exact (h.1.2 _ c3).2 k k0 c5 c4
def mf_al (n : Int) (h : Int → Int) (c : Int → Int → Int) (f : Int → Int) (s t : Int) : Prop := f s = f t ∧ ∀ k, 0 ≤ k → k < mf_w (h s) → f (c s k) = f (c t k)
theorem mf_w_in (a : Int) : 0 ≤ mf_w a ∧ mf_w a ≤ 3 := by
  unfold mf_w
  split <;> omega
set_option maxHeartbeats 1000000 in
theorem sp_95 (h : ms n hd ch G) (hk : ∀ s t, mf_dom n s → mf_dom n t → G 53 s = G 53 t → mh hd (G 50) (G 51) s = mh hd (G 50) (G 51) t) {a b : Int} (ha : mf_dom n a) (hb : mf_dom n b) :
    tf_RUN l 95 [tf_r 42, tf_i a, tf_i b] G (tf_PI fun r G' => G' = G ∧ ((r = 1 ∧ mf_al n (mh hd (G 50) (G 51)) (mc ch (G 50) (G 51)) (G 53) a b) ∨ (r = 0 ∧ ¬ mf_al n (mh hd (G 50) (G 51)) (mc ch (G 50) (G 51)) (G 53) a b))) := by
  obtain ⟨a1, a2, a3⟩ := h.b ha
  obtain ⟨b1, b2, b3⟩ := h.b hb
  have hw := mf_w_in (mh hd (G 50) (G 51) a)
  have z0 : ∀ k, ¬ mf_al n (mh hd (G 50) (G 51)) (mc ch (G 50) (G 51)) (G 53) a b → tf_AW l 95 none (tf_PI fun r G' => G' = G ∧ ((r = 1 ∧ mf_al n (mh hd (G 50) (G 51)) (mc ch (G 50) (G 51)) (G 53) a b) ∨ (r = 0 ∧ ¬ mf_al n (mh hd (G 50) (G 51)) (mc ch (G 50) (G 51)) (G 53) a b)))
      24 [(0, tf_r 42), (1, tf_i a), (2, tf_i b), (3, tf_i 0), (4, tf_i k)] [] (none, false) G := by
    intro k hn
    exact vc_95_24 (tf_re (sp_93 h ha) ⟨fun _ => ⟨by decide, tf_pi ⟨rfl, Or.inr ⟨rfl, hn⟩⟩⟩, fun _ => ⟨fun _ => ⟨by decide, tf_pi ⟨rfl, Or.inr ⟨rfl, hn⟩⟩⟩, fun z => by omega⟩⟩)
  have z1 : ∀ (d : Nat) (k : Int), 0 ≤ k → k + d = mf_w (mh hd (G 50) (G 51) a) → G 53 a = G 53 b → (∀ j, 0 ≤ j → j < k → G 53 (mc ch (G 50) (G 51) a j) = G 53 (mc ch (G 50) (G 51) b j)) →
      tf_AW l 95 none (tf_PI fun r G' => G' = G ∧ ((r = 1 ∧ mf_al n (mh hd (G 50) (G 51)) (mc ch (G 50) (G 51)) (G 53) a b) ∨ (r = 0 ∧ ¬ mf_al n (mh hd (G 50) (G 51)) (mc ch (G 50) (G 51)) (G 53) a b)))
      24 [(0, tf_r 42), (1, tf_i a), (2, tf_i b), (3, tf_i 1), (4, tf_i k)] [] (none, false) G := by
    intro d
    induction d with
    | zero =>
      intro k k0 k1 e1 e2
      refine vc_95_24 (tf_re (sp_93 h ha) ⟨fun _ => ⟨by decide, tf_pi ⟨rfl, Or.inl ⟨rfl, e1, fun j j0 j1 => e2 j j0 (by omega)⟩⟩⟩, fun z => by omega⟩)
    | succ d ih =>
      intro k k0 k1 e1 e2
      have kb : k < mf_w (mh hd (G 50) (G 51) b) := by rw [← hk a b ha hb e1]; omega
      have c1 := (h.b (mc_dom h.2.2.2 h.2.2.1 ha k0 (by omega)).1).1
      have c2 := (h.b (mc_dom h.2.2.2 h.2.2.1 hb k0 kb).1).1
      refine vc_95_24 (tf_re (sp_93 h ha) ⟨fun z => by omega, fun _ => ⟨fun z => by omega, fun _ => tf_re (sp_92 h ha k0 (by omega)) ⟨c1, tf_re (sp_92 h hb k0 kb) ⟨c2, fun q => ⟨by omega, z0 _ ?_⟩, fun q => ⟨by omega, ih _ (by omega) (by omega) e1 ?_⟩⟩⟩⟩⟩)
      · intro hal
        exact q (hal.2 k k0 (by omega))
      · intro j j0 j1
        by_cases e : j = k
        · rw [e]; exact q
        · exact e2 j j0 (by omega)
  refine vc_95 ⟨a1, b1, fun q => z0 0 (fun hal => q hal.1), fun q => z1 (mf_w (mh hd (G 50) (G 51) a)).toNat 0 (by omega) (by omega) q (fun j j0 j1 => by omega)⟩
/-- what a round of the refinement leaves -/
def mfr2 (G G' : tf_Sto) : Prop := (∀ k : Nat, k ≠ 42 → k ≠ 53 → k ≠ 54 → k ≠ 55 → G' k = G k) ∧ ∀ j, j ≠ 18 → G' 42 j = G 42 j
theorem mfr2.refl {G : tf_Sto} : mfr2 G G := ⟨fun _ _ _ _ _ => rfl, fun _ _ => rfl⟩
theorem mfr2.trans {G G' G'' : tf_Sto} (h : mfr2 G G') (h' : mfr2 G' G'') : mfr2 G G'' := ⟨fun k a b c d => (h'.1 k a b c d).trans (h.1 k a b c d), fun j hj => (h'.2 j hj).trans (h.2 j hj)⟩
theorem ms.m2 {G' : tf_Sto} (h : ms n hd ch G) (hf : mfr2 G G') : ms n hd ch G' :=
  h.fr (hf.2 1 (by decide)) (hf.1 43 (by decide) (by decide) (by decide) (by decide)) (hf.1 44 (by decide) (by decide) (by decide) (by decide)) (hf.1 45 (by decide) (by decide) (by decide) (by decide)) (hf.1 50 (by decide) (by decide) (by decide) (by decide)) (hf.1 51 (by decide) (by decide) (by decide) (by decide))
set_option maxHeartbeats 2000000 in
theorem sp_97 (h : ms n hd ch G) (hk : ∀ s t, mf_dom n s → mf_dom n t → G 53 s = G 53 t → mh hd (G 50) (G 51) s = mh hd (G 50) (G 51) t) :
    tf_RUN l 97 [tf_r 42] G (tf_PV fun G' => mfr2 G G' ∧ 0 ≤ G' 42 18 ∧ mf_Num n (G' 42 18) (G' 53) ∧ (∀ x, mf_dom (G' 42 18) x → mf_dom n (G' 55 x) ∧ G' 53 (G' 55 x) = x) ∧ (∀ s t, mf_dom n s → mf_dom n t → (G' 53 s = G' 53 t ↔ mf_al n (mh hd (G 50) (G 51)) (mc ch (G 50) (G 51)) (G 53) s t))) := by
  have hal : ∀ s t, mf_dom n s → mf_dom n t → mf_al n (mh hd (G 50) (G 51)) (mc ch (G 50) (G 51)) (G 53) s t → mf_al n (mh hd (G 50) (G 51)) (mc ch (G 50) (G 51)) (G 53) t s := by
    intro s t hs ht q
    refine ⟨q.1.symm, fun k k0 k1 => (q.2 k k0 ?_).symm⟩
    rw [hk s t hs ht q.1]; exact k1
  have htr : ∀ s t u, mf_dom n s → mf_dom n t → mf_dom n u → mf_al n (mh hd (G 50) (G 51)) (mc ch (G 50) (G 51)) (G 53) s t → mf_al n (mh hd (G 50) (G 51)) (mc ch (G 50) (G 51)) (G 53) t u → mf_al n (mh hd (G 50) (G 51)) (mc ch (G 50) (G 51)) (G 53) s u := by
    intro s t u hs ht hu q q'
    refine ⟨q.1.trans q'.1, fun k k0 k1 => (q.2 k k0 k1).trans (q'.2 k k0 ?_)⟩
    rw [← hk s t hs ht q.1]; exact k1
  have hrf : ∀ s, mf_al n (mh hd (G 50) (G 51)) (mc ch (G 50) (G 51)) (G 53) s s := fun s => ⟨rfl, fun _ _ _ => rfl⟩
  generalize hAL : mf_al n (mh hd (G 50) (G 51)) (mc ch (G 50) (G 51)) (G 53) = AL at *
  refine vc_97 ?_
  generalize hPo : (tf_PV fun G' => mfr2 G G' ∧ 0 ≤ G' 42 18 ∧ mf_Num n (G' 42 18) (G' 53) ∧ (∀ x, mf_dom (G' 42 18) x → mf_dom n (G' 55 x) ∧ G' 53 (G' 55 x) = x) ∧ (∀ s t, mf_dom n s → mf_dom n t → (G' 53 s = G' 53 t ↔ AL s t))) = Po
  -- the numbers go over
  have k3 : ∀ (d : Nat) (G1 : tf_Sto) (k : Int), 0 ≤ k → k + d = n → mfr2 G G1 → 0 ≤ G1 42 18 → mf_Num n (G1 42 18) (G1 54) → (∀ x, mf_dom (G1 42 18) x → mf_dom n (G1 55 x) ∧ G1 54 (G1 55 x) = x) → (∀ s t, mf_dom n s → mf_dom n t → (G1 54 s = G1 54 t ↔ AL s t)) → (∀ t, mf_dom n t → t < k → G1 53 t = G1 54 t) →
      tf_AW l 97 none Po 85 [(0, tf_r 42), (1, tf_i k)] [] (none, false) G1 := by
    intro d
    induction d with
    | zero =>
      intro G1 k k0 k1 hf c0 c1 c2 c3 c4
      have en : G1 42 1 = n := by rw [hf.2 1 (by decide)]; exact h.1.1
      have e : ∀ t, mf_dom n t → G1 53 t = G1 54 t := fun t ht => c4 t ht (by have := ht.2; omega)
      refine vc_97_85 ⟨fun _ => ?_, fun z => by omega⟩
      rw [← hPo]
      refine tf_pv ⟨hf, c0, ⟨fun t ht => by rw [e t ht]; exact c1.1 t ht, fun x hx => ?_⟩, fun x hx => ?_, fun s t hs ht => ?_⟩
      · obtain ⟨t, h1, h2⟩ := c1.2 x hx
        exact ⟨t, h1, by rw [e t h1]; exact h2⟩
      · obtain ⟨h1, h2⟩ := c2 x hx
        exact ⟨h1, by rw [e _ h1]; exact h2⟩
      · rw [e s hs, e t ht]; exact c3 s t hs ht
    | succ d ih =>
      intro G1 k k0 k1 hf c0 c1 c2 c3 c4
      have en : G1 42 1 = n := by rw [hf.2 1 (by decide)]; exact h.1.1
      have h300 := h.2.1.2
      refine vc_97_85 ⟨fun z => by omega, fun _ => ⟨by omega, by omega, by omega, ih _ _ (by omega) (by omega) ?_ ?_ ?_ ?_ ?_ ?_⟩⟩
      · exact hf.trans ⟨fun k _ a2 _ _ => tf_upo a2, fun j _ => by rw [tf_upo (by decide)]⟩
      · simp only [tf_upo, tf_upo', tf_up_eq, ne_eq, Nat.reduceEqDiff, not_false_eq_true, reduceCtorEq]
        exact c0
      · simp only [tf_upo, tf_upo', tf_up_eq, ne_eq, Nat.reduceEqDiff, not_false_eq_true, reduceCtorEq]
        exact c1
      · simp only [tf_upo, tf_upo', tf_up_eq, ne_eq, Nat.reduceEqDiff, not_false_eq_true, reduceCtorEq]
        exact c2
      · simp only [tf_upo, tf_upo', tf_up_eq, ne_eq, Nat.reduceEqDiff, not_false_eq_true, reduceCtorEq]
        exact c3
      · intro t ht htk
        simp only [tf_upo, tf_upo', tf_up_eq, ne_eq, Nat.reduceEqDiff, not_false_eq_true, reduceCtorEq]
        by_cases e : t = k
        · rw [if_pos e, e]
        · rw [if_neg e]; exact c4 t ht (by omega)
  -- one term after the other
  have k1 : ∀ (d : Nat) (G1 : tf_Sto) (k : Int), 0 ≤ k → k + d = n → mfr2 G G1 → G1 53 = G 53 → (0 ≤ G1 42 18 ∧ G1 42 18 ≤ k) → (∀ t, mf_dom n t → t < k → mf_dom (G1 42 18) (G1 54 t) ∧ AL (G1 55 (G1 54 t)) t) → (∀ x, mf_dom (G1 42 18) x → mf_dom n (G1 55 x) ∧ G1 55 x < k ∧ G1 54 (G1 55 x) = x) → (∀ x y, mf_dom (G1 42 18) x → mf_dom (G1 42 18) y → AL (G1 55 x) (G1 55 y) → x = y) →
      tf_AW l 97 none Po 7 [(0, tf_r 42), (1, tf_i k)] [] (none, false) G1 := by
    intro d
    induction d with
    | zero =>
      intro G1 k k0 k1 hf e53 c0 c1 c2 c3
      have en : G1 42 1 = n := by rw [hf.2 1 (by decide)]; exact h.1.1
      refine vc_97_7 ⟨fun _ => k3 n.toNat G1 0 (by omega) (by omega) hf c0.1 ⟨fun t ht => (c1 t ht (by have := ht.2; omega)).1, fun x hx => ⟨G1 55 x, (c2 x hx).1, (c2 x hx).2.2⟩⟩ (fun x hx => ⟨(c2 x hx).1, (c2 x hx).2.2⟩) (fun s t hs ht => ?_) (fun t ht z => by have := ht.1; omega), fun z => by omega⟩
      obtain ⟨s1, s2⟩ := c1 s hs (by have := hs.2; omega)
      obtain ⟨t1, t2⟩ := c1 t ht (by have := ht.2; omega)
      have ds := (c2 _ s1).1
      have dt := (c2 _ t1).1
      constructor
      · intro e
        rw [e] at s2
        exact htr _ _ _ hs dt ht (hal _ _ dt hs s2) t2
      · intro e
        exact c3 _ _ s1 t1 (htr _ _ _ ds hs dt s2 (htr _ _ _ hs ht dt e (hal _ _ dt ht t2)))
    | succ d ih =>
      intro G1 k k0 k1 hf e53 c0 c1 c2 c3
      have en : G1 42 1 = n := by rw [hf.2 1 (by decide)]; exact h.1.1
      have h300 := h.2.1.2
      have dk : mf_dom n k := ⟨k0, by omega⟩
      have hm1 := h.m2 hf
      have e50 : G1 50 = G 50 := hf.1 50 (by decide) (by decide) (by decide) (by decide)
      have e51 : G1 51 = G 51 := hf.1 51 (by decide) (by decide) (by decide) (by decide)
      refine vc_97_7 ⟨fun z => by omega, fun _ => ?_⟩
      -- the search
      have k2 : ∀ (f : Nat) (x : Int), 0 ≤ x → x + f = G1 42 18 → (∀ y, 0 ≤ y → y < x → ¬ AL (G1 55 y) k) → tf_AW l 97 none Po 17 [(0, tf_r 42), (1, tf_i k), (2, tf_i x)] [] (none, false) G1 := by
        intro f
        induction f with
        | zero =>
          intro x x0 x1 hno
          have ex : x = G1 42 18 := by omega
          refine vc_97_17 ⟨fun _ => ⟨fun q => absurd ex q, fun _ => ⟨by omega, by omega, by omega, by omega, ?_⟩⟩, fun z => by omega⟩
          have eU : tf_up (tf_up (tf_up G1 55 x k) 42 18 (G1 42 18 + 1)) 54 k x 42 18 = G1 42 18 + 1 := by
            rw [tf_upo (by decide), tf_up_at]
          refine ih _ _ (by omega) (by omega) ?_ ?_ ?_ ?_ ?_ ?_
          · refine hf.trans ⟨fun j a1 _ a3 a4 => by rw [tf_upo a3, tf_upo a1, tf_upo a4], fun j hj => ?_⟩
            simp only [tf_upo, tf_upo', tf_up_eq, ne_eq, Nat.reduceEqDiff, not_false_eq_true, reduceCtorEq]
            rw [if_neg hj]
          · simp only [tf_upo, tf_upo', tf_up_eq, ne_eq, Nat.reduceEqDiff, not_false_eq_true, reduceCtorEq]
            exact e53
          · rw [eU]; omega
          · rw [eU]
            simp only [tf_upo, tf_upo', tf_up_eq, ne_eq, Nat.reduceEqDiff, not_false_eq_true, reduceCtorEq]
            intro t ht htk
            by_cases e : t = k
            · rw [if_pos e, if_pos rfl, e]
              exact ⟨⟨by omega, by omega⟩, hrf k⟩
            · rw [if_neg e]
              obtain ⟨q1, q2⟩ := c1 t ht (by omega)
              have q3 := q1.2
              rw [if_neg (by omega)]
              exact ⟨⟨q1.1, by omega⟩, q2⟩
          · rw [eU]
            simp only [tf_upo, tf_upo', tf_up_eq, ne_eq, Nat.reduceEqDiff, not_false_eq_true, reduceCtorEq]
            intro y hy
            by_cases e : y = x
            · rw [if_pos e, if_pos rfl, e]
              exact ⟨dk, by omega, rfl⟩
            · rw [if_neg e]
              obtain ⟨q1, q2, q3⟩ := c2 y ⟨hy.1, by have := hy.2; omega⟩
              rw [if_neg (by omega)]
              exact ⟨q1, by omega, q3⟩
          · rw [eU]
            simp only [tf_upo, tf_upo', tf_up_eq, ne_eq, Nat.reduceEqDiff, not_false_eq_true, reduceCtorEq]
            intro y z hy hz
            by_cases e : y = x
            · by_cases e' : z = x
              · intro _; rw [e, e']
              · rw [if_pos e, if_neg e']
                intro q
                have dz : mf_dom (G1 42 18) z := ⟨hz.1, by have := hz.2; omega⟩
                exact absurd (hal _ _ dk (c2 z dz).1 q) (hno z hz.1 (by have := dz.2; omega))
            · have dy : mf_dom (G1 42 18) y := ⟨hy.1, by have := hy.2; omega⟩
              by_cases e' : z = x
              · rw [if_neg e, if_pos e']
                intro q
                exact absurd q (hno y hy.1 (by have := dy.2; omega))
              · rw [if_neg e, if_neg e']
                exact c3 y z dy ⟨hz.1, by have := hz.2; omega⟩
        | succ f ihf =>
          intro x x0 x1 hno
          have dx : mf_dom (G1 42 18) x := ⟨x0, by omega⟩
          refine vc_97_17 ⟨fun z => by omega, fun _ => ⟨by omega, tf_ri (sp_95 hm1 (by rw [e50, e51, e53]; exact hk) (c2 x dx).1 dk) ?_⟩⟩
          rw [e50, e51, e53, hAL]
          rintro r G2 ⟨rfl, ⟨rfl, q⟩ | ⟨rfl, q⟩⟩
          · refine ⟨fun _ => ⟨fun _ => ⟨by omega, by omega, ih _ _ (by omega) (by omega) ?_ ?_ ?_ ?_ ?_ ?_⟩, fun z => by omega⟩, fun z => by omega⟩
            · exact hf.trans ⟨fun j _ _ a3 _ => tf_upo a3, fun j _ => by rw [tf_upo (by decide)]⟩
            · simp only [tf_upo, tf_upo', tf_up_eq, ne_eq, Nat.reduceEqDiff, not_false_eq_true, reduceCtorEq]
              exact e53
            · simp only [tf_upo, tf_upo', tf_up_eq, ne_eq, Nat.reduceEqDiff, not_false_eq_true, reduceCtorEq]
              omega
            · simp only [tf_upo, tf_upo', tf_up_eq, ne_eq, Nat.reduceEqDiff, not_false_eq_true, reduceCtorEq]
              intro t ht htk
              by_cases e : t = k
              · rw [if_pos e, e]; exact ⟨dx, q⟩
              · rw [if_neg e]; exact c1 t ht (by omega)
            · simp only [tf_upo, tf_upo', tf_up_eq, ne_eq, Nat.reduceEqDiff, not_false_eq_true, reduceCtorEq]
              intro y hy
              obtain ⟨q1, q2, q3⟩ := c2 y hy
              rw [if_neg (by omega)]
              exact ⟨q1, by omega, q3⟩
            · simp only [tf_upo, tf_upo', tf_up_eq, ne_eq, Nat.reduceEqDiff, not_false_eq_true, reduceCtorEq]
              exact c3
          · refine ⟨fun z => by omega, fun _ => ⟨by omega, ihf _ (by omega) (by omega) ?_⟩⟩
            intro y y0 y1
            by_cases e : y = x
            · rw [e]; exact q
            · exact hno y y0 (by omega)
      exact k2 (G1 42 18).toNat 0 (by omega) (by omega) (fun y y0 y1 => by omega)
  refine k1 n.toNat _ 0 (by omega) (by have := h.2.1.1; omega) ⟨fun j a1 _ _ _ => tf_upo a1, fun j hj => by rw [tf_up_eq, if_neg hj]⟩ (tf_upo (by decide)) (by rw [tf_up_at]; omega) (fun t ht z => by have := ht.1; omega) (fun x hx => ?_) (fun x y hx => ?_)
  · rw [tf_up_at] at hx; have := hx.1; have := hx.2; omega
  · rw [tf_up_at] at hx; have := hx.1; have := hx.2; omega
end
