-- SPEC F: the reference: equations
def mv (n : Int) (hd : Int → Int) (ch : Int → Int → Int) (G : tf_Sto) : Prop := G 42 1 = n ∧ ∀ t, mf_dom n t → ((hd t = -1 ∧ G 43 t = -1 ∧ G 44 t = 0) ∨ (0 ≤ hd t ∧ hd t < 64 ∧ G 43 t = hd t / 4 ∧ G 44 t = hd t % 4)) ∧
  ∀ k, 0 ≤ k → k < hd t % 4 → 0 ≤ hd t → G 45 (3 * t + k) = ch t k
def mfr (G G' : tf_Sto) : Prop := (∀ k : Nat, k ≠ 42 → k ≠ 50 → k ≠ 51 → k ≠ 52 → G' k = G k) ∧ ∀ j, j ≠ 14 → G' 42 j = G 42 j
theorem mfr.refl {G : tf_Sto} : mfr G G := ⟨fun _ _ _ _ _ => rfl, fun _ _ => rfl⟩
theorem mfr.trans {G G' G'' : tf_Sto} (h : mfr G G') (h' : mfr G' G'') : mfr G G'' := ⟨fun k a b c d => (h'.1 k a b c d).trans (h.1 k a b c d), fun j hj => (h'.2 j hj).trans (h.2 j hj)⟩
theorem mv.fr {n : Int} {hd : Int → Int} {ch : Int → Int → Int} {G G' : tf_Sto} (h : mv n hd ch G) (e1 : G' 42 1 = G 42 1) (e2 : G' 43 = G 43) (e3 : G' 44 = G 44) (e4 : G' 45 = G 45) : mv n hd ch G' := by
  unfold mv
  rw [e1, e2, e3, e4]
  exact h
theorem mv.mf {n : Int} {hd : Int → Int} {ch : Int → Int → Int} {G G' : tf_Sto} (h : mv n hd ch G) (hf : mfr G G') : mv n hd ch G' :=
  h.fr (hf.2 1 (by decide)) (hf.1 43 (by decide) (by decide) (by decide) (by decide)) (hf.1 44 (by decide) (by decide) (by decide) (by decide)) (hf.1 45 (by decide) (by decide) (by decide) (by decide))
theorem mf_roots {n a b : Int} {rt rt' : Int → Int} (ha : mf_dom n a) (hne : a ≠ b) (ra : rt a = a) (rb : rt b = b) (hh : ∀ t, mf_dom n t → rt' t = if rt t = a then b else rt t) : mf_cnt (fun t => rt t = t) n.toNat = mf_cnt (fun t => rt' t = t) n.toNat + 1 := by
  refine mf_cnt_add (P := fun t => rt' t = t) (Q := fun t => rt t = t) (n := n.toNat) (a := a) ha.1 (mf_dom_nat ha) (fun z => ?_) (fun t h0 ht => ?_)
  · have z : rt' a = a := z
    rw [hh a ha, ra, if_pos rfl] at z
    exact hne z.symm
  · show rt t = t ↔ rt' t = t ∨ t = a
    rw [hh t (mf_nat_dom h0 ht)]
    by_cases q : rt t = a
    · rw [if_pos q, q]
      constructor
      · intro z; exact Or.inr z.symm
      · rintro (z | z)
        · exfalso; subst z; rw [rb] at q; exact hne q.symm
        · exact z.symm
    · rw [if_neg q]
      constructor
      · intro z; exact Or.inl z
      · rintro (z | z)
        · exact z
        · subst z; exact ra
section
variable {l : Launch} {G : tf_Sto} {n : Int} {hd : Int → Int} {ch : Int → Int → Int} {E : List (Int × Int)}
theorem sp_84 {a b : Int} (h : 0 ≤ G 42 14 ∧ G 42 14 < 2998) : tf_RUN l 84 [tf_r 42, tf_i a, tf_i b] G (tf_PV fun G' => G' = tf_up (tf_up (tf_up G 52 (G 42 14) a) 52 (G 42 14 + 1) b) 42 14 (G 42 14 + 2)) :=
  vc_84 ⟨by omega, by omega, by omega, by omega, tf_pv rfl⟩
/-- so many pairs more on the pile -/
def mw (G G' : tf_Sto) (m : Int) (f f' : Int → Int) : Prop := G' 42 14 = G 42 14 + 2 * m ∧ (∀ j, j < G 42 14 → G' 52 j = G 52 j) ∧ ∀ k, 0 ≤ k → k < m → G' 52 (G 42 14 + 2 * k) = f k ∧ G' 52 (G 42 14 + 2 * k + 1) = f' k
set_option maxHeartbeats 1000000 in
theorem sp_85b {Post : tf_Out → tf_Sto → Prop} (hv : mv n hd ch G) (hn : n ≤ 300) {s t : Int} (hs : mf_dom n s) (ht : mf_dom n t) (s0 : 0 ≤ hd s) (t0 : hd s = hd t) (hw : 0 ≤ G 42 14 ∧ G 42 14 < 2990)
    (hp : ∀ G', mw G G' (hd s % 4) (ch s) (ch t) → (∀ k : Nat, k ≠ 42 → k ≠ 52 → G' k = G k) → (∀ j, j ≠ 14 → G' 42 j = G 42 j) → Post (.inl (some (tf_i 1))) G') :
    tf_AW l 85 none Post 157 [(0, tf_r 42), (5, tf_i s), (6, tf_i t), (7, tf_i 0)] [] (none, false) G := by
  have key : ∀ (d : Nat) (G1 : tf_Sto) (k : Int), 0 ≤ k → k + d = hd s % 4 → mw G G1 k (ch s) (ch t) → (∀ k : Nat, k ≠ 42 → k ≠ 52 → G1 k = G k) → (∀ j, j ≠ 14 → G1 42 j = G 42 j) →
      tf_AW l 85 none Post 157 [(0, tf_r 42), (5, tf_i s), (6, tf_i t), (7, tf_i k)] [] (none, false) G1 := by
    have bs : 0 ≤ s ∧ s < 300 := ⟨hs.1, by have := hs.2; omega⟩
    have bt : 0 ≤ t ∧ t < 300 := ⟨ht.1, by have := ht.2; omega⟩
    have h44 : G 44 s = hd s % 4 := by
      rcases (hv.2 s hs).1 with q | q
      · omega
      · exact q.2.2.2
    intro d
    induction d with
    | zero =>
      intro G1 k h0 h1 h2 h3 h4
      have e : k = hd s % 4 := by omega
      subst e
      refine vc_85_157 ⟨bs, fun _ => ⟨by decide, hp G1 h2 h3 h4⟩, fun z => ?_⟩
      rw [h3 44 (by decide) (by decide), h44] at z
      omega
    | succ d ih =>
      intro G1 k h0 h1 h2 h3 h4
      have h44' : G1 44 s = hd s % 4 := by rw [h3 44 (by decide) (by decide)]; exact h44
      have h45 : G1 45 = G 45 := h3 45 (by decide) (by decide)
      have kk := (hv.2 s hs).2 k h0 (by omega) s0
      have kt := (hv.2 t ht).2 k h0 (by omega) (by omega)
      refine vc_85_157 ⟨bs, fun z => by omega, fun z => ⟨by omega, by omega, by omega, by omega, by omega, by omega, tf_rv (sp_84 ?_) ?_⟩⟩
      · have := h2.1
        omega
      · rintro _ rfl
        refine ⟨by omega, ih _ _ (by omega) (by omega) ?_ ?_ ?_⟩
        · obtain ⟨w1, w2, w3⟩ := h2
          rw [h45, kk, kt]
          refine ⟨?_, fun j hj => ?_, fun j j0 j1 => ?_⟩
          · rw [tf_up_at, w1]; omega
          · simp only [tf_upo, tf_upo', tf_up_eq, ne_eq, Nat.reduceEqDiff, not_false_eq_true, reduceCtorEq]
            rw [if_neg (by omega), if_neg (by omega)]
            exact w2 j hj
          · simp only [tf_upo, tf_upo', tf_up_eq, ne_eq, Nat.reduceEqDiff, not_false_eq_true, reduceCtorEq]
            by_cases q : j = k
            · rw [if_neg (by omega), if_pos (by omega), if_pos (by omega), q]
              exact ⟨rfl, rfl⟩
            · rw [if_neg (by omega), if_neg (by omega), if_neg (by omega), if_neg (by omega)]
              exact w3 j j0 (by omega)
        · intro k q1 q2
          rw [tf_upo q1, tf_upo q2, tf_upo q2]
          exact h3 k q1 q2
        · intro j q
          simp only [tf_upo, tf_upo', tf_up_eq, ne_eq, Nat.reduceEqDiff, not_false_eq_true, reduceCtorEq]
          rw [if_neg q]
          exact h4 j q
  exact key (hd s % 4).toNat G 0 (by omega) (by omega) ⟨by omega, fun j _ => rfl, fun k h0 h1 => by omega⟩ (fun _ _ _ => rfl) (fun _ _ => rfl)
/-- the classes after a merge -/
def mm (n x y : Int) (G G' : tf_Sto) : Prop := (∀ t, mf_dom n t → G' 50 t = if G 50 t = y then x else G 50 t) ∧ ∀ t, G' 51 t = if t = x then (if G 51 x = -1 then G 51 y else G 51 x) else G 51 t
set_option maxHeartbeats 2000000 in
theorem sp_85 (hv : mv n hd ch G) (hn : n ≤ 300) (hp : mf_par n hd (G 50) (G 51)) {a b : Int} (ha : mf_dom n a) (hb : mf_dom n b) (hw : 0 ≤ G 42 14 ∧ G 42 14 < 2990) :
    tf_RUN l 85 [tf_r 42, tf_i a, tf_i b] G (tf_PI fun r G' => (G 50 a = G 50 b ∧ r = 1 ∧ G' = G) ∨
      (G 50 a ≠ G 50 b ∧ mfr G G' ∧ G 51 (G 50 a) ≠ -1 ∧ G 51 (G 50 b) ≠ -1 ∧ hd (G 51 (G 50 a)) ≠ hd (G 51 (G 50 b)) ∧ r = 0) ∨
      (G 50 a ≠ G 50 b ∧ mfr G G' ∧ (G 51 (G 50 a) = -1 ∨ G 51 (G 50 b) = -1 ∨ hd (G 51 (G 50 a)) = hd (G 51 (G 50 b))) ∧ r = 1 ∧ mm n (G 50 a) (G 50 b) G G' ∧
        ((G 51 (G 50 a) ≠ -1 ∧ G 51 (G 50 b) ≠ -1 ∧ mw G G' (hd (G 51 (G 50 a)) % 4) (ch (G 51 (G 50 a))) (ch (G 51 (G 50 b)))) ∨ ((G 51 (G 50 a) = -1 ∨ G 51 (G 50 b) = -1) ∧ mw G G' 0 (fun _ => 0) (fun _ => 0))))) := by
  have ba : 0 ≤ a ∧ a < 300 := ⟨ha.1, by have := ha.2; omega⟩
  have bb : 0 ≤ b ∧ b < 300 := ⟨hb.1, by have := hb.2; omega⟩
  obtain ⟨pa1, pa2, pa3⟩ := hp a ha
  obtain ⟨pb1, pb2, pb3⟩ := hp b hb
  generalize hx : G 50 a = x at *
  generalize hy : G 50 b = y at *
  have bx : 0 ≤ x ∧ x < 300 := ⟨pa1.1, by have := pa1.2; omega⟩
  have by_ : 0 ≤ y ∧ y < 300 := ⟨pb1.1, by have := pb1.2; omega⟩
  have sx : G 51 x = -1 ∨ (mf_dom n (G 51 x) ∧ 0 ≤ hd (G 51 x)) := by
    rcases pa3 with q | q
    · exact Or.inl q.1
    · exact Or.inr ⟨q.1, q.2.2⟩
  have sy : G 51 y = -1 ∨ (mf_dom n (G 51 y) ∧ 0 ≤ hd (G 51 y)) := by
    rcases pb3 with q | q
    · exact Or.inl q.1
    · exact Or.inr ⟨q.1, q.2.2⟩
  refine vc_85 ⟨ba, bb, fun hne => ?_, fun e => ⟨by decide, tf_pi (Or.inl ⟨by rw [hx, hy] at e; exact e, rfl, rfl⟩)⟩⟩
  rw [hx, hy]
  rw [hx, hy] at hne
  refine ⟨bx, by_, ?_⟩
  have w0 : ∀ {G1 : tf_Sto}, G1 42 14 = G 42 14 → G1 52 = G 52 → mw G G1 0 (fun _ => 0) (fun _ => 0) := fun e1 e2 => ⟨by rw [e1]; omega, fun j _ => by rw [e2], fun k h0 h1 => by omega⟩
  have key : ∀ (d : Nat) (G1 : tf_Sto) (k : Int), 0 ≤ k → k + d = n → (∀ t, mf_dom n t → G1 50 t = if t < k ∧ G 50 t = y then x else G 50 t) → (∀ k : Nat, k ≠ 50 → G1 k = G k) →
      tf_AW l 85 none (tf_PI fun r G' => (x = y ∧ r = 1 ∧ G' = G) ∨ (x ≠ y ∧ mfr G G' ∧ G 51 x ≠ -1 ∧ G 51 y ≠ -1 ∧ hd (G 51 x) ≠ hd (G 51 y) ∧ r = 0) ∨
      (x ≠ y ∧ mfr G G' ∧ (G 51 x = -1 ∨ G 51 y = -1 ∨ hd (G 51 x) = hd (G 51 y)) ∧ r = 1 ∧ mm n x y G G' ∧
        ((G 51 x ≠ -1 ∧ G 51 y ≠ -1 ∧ mw G G' (hd (G 51 x) % 4) (ch (G 51 x)) (ch (G 51 y))) ∨ ((G 51 x = -1 ∨ G 51 y = -1) ∧ mw G G' 0 (fun _ => 0) (fun _ => 0)))))
        43 [(0, tf_r 42), (3, tf_i x), (4, tf_i y), (5, tf_i (G 51 x)), (6, tf_i (G 51 y)), (7, tf_i k)] [] (none, false) G1 := by
    intro d
    induction d with
    | succ d ih =>
      intro G1 k h0 h1 h2 h3
      have en : G1 42 1 = n := by rw [h3 42 (by decide)]; exact hv.1
      have dk : mf_dom n k := ⟨h0, by omega⟩
      have ek : G1 50 k = G 50 k := by
        rw [h2 k dk, if_neg (fun q => by omega)]
      refine vc_85_43 ⟨fun z => by omega, fun z => ⟨by omega, fun q => ⟨by omega, by omega, by omega, ih _ _ (by omega) (by omega) ?_ ?_⟩, fun q => ⟨by omega, by omega, ih _ _ (by omega) (by omega) ?_ ?_⟩⟩⟩
      · intro t ht
        rw [tf_up_eq]
        by_cases e : t = k
        · rw [if_pos e, e, ek]
          rw [ek] at q
          rw [if_neg (fun q' => q q'.2)]
        · rw [if_neg e, h2 t ht]
          by_cases e2 : t < k ∧ G 50 t = y
          · rw [if_pos e2, if_pos ⟨by omega, e2.2⟩]
          · rw [if_neg e2, if_neg (fun q' => e2 ⟨by omega, q'.2⟩)]
      · intro j hj
        rw [tf_upo hj]
        exact h3 j hj
      · intro t ht
        rw [tf_up_eq]
        by_cases e : t = k
        · rw [ek] at q
          rw [if_pos e, e, if_pos ⟨by omega, q⟩]
        · rw [if_neg e, h2 t ht]
          by_cases e2 : t < k ∧ G 50 t = y
          · rw [if_pos e2, if_pos ⟨by omega, e2.2⟩]
          · rw [if_neg e2, if_neg (fun q' => e2 ⟨by omega, q'.2⟩)]
      · intro j hj
        rw [tf_upo hj]
        exact h3 j hj
    | zero =>
      intro G1 k h0 h1 h2 h3
      have en : G1 42 1 = n := by rw [h3 42 (by decide)]; exact hv.1
      have e51 : G1 51 = G 51 := h3 51 (by decide)
      have hmm : ∀ {G2 : tf_Sto} (v : Int), (v = if G 51 x = -1 then G 51 y else G 51 x) → G2 50 = G1 50 → G2 51 = tf_up G1 51 x v 51 → mm n x y G G2 := by
        intro G2 v hv' e1 e2
        refine ⟨fun t ht => ?_, fun t => ?_⟩
        · rw [e1, h2 t ht]
          by_cases e : G 50 t = y
          · rw [if_pos e, if_pos ⟨by have := ht.2; omega, e⟩]
          · rw [if_neg e, if_neg (fun q => e q.2)]
        · rw [e2, tf_up_eq, e51, hv']
      have hfr : ∀ {v : Int}, mfr G (tf_up G1 51 x v) := by
        intro v
        refine ⟨fun k a1 a2 a3 a4 => ?_, fun j hj => ?_⟩
        · rw [tf_upo a3]; exact h3 k a2
        · rw [tf_upo (by decide), h3 42 (by decide)]
      have h42 : ∀ {v : Int}, tf_up G1 51 x v 42 14 = G 42 14 := fun {v} => by rw [tf_upo (by decide), h3 42 (by decide)]
      have h52 : ∀ {v : Int}, tf_up G1 51 x v 52 = G 52 := fun {v} => by rw [tf_upo (by decide), h3 52 (by decide)]
      have h43 : G1 43 = G 43 := h3 43 (by decide)
      have h44 : G1 44 = G 44 := h3 44 (by decide)
      refine vc_85_43 ⟨fun _ => ⟨fun q => ⟨bx, fun q' => by omega, fun _ => ⟨fun p => ?_, fun p => ⟨by decide, tf_pi (Or.inr (Or.inr ⟨hne, hfr, ?_⟩))⟩⟩⟩, fun q => ⟨bx, fun _ => ⟨by decide, tf_pi (Or.inr (Or.inr ⟨hne, hfr, ?_⟩))⟩, fun q' => by omega⟩⟩, fun z => by omega⟩
      · -- both have signs
        have nx : G 51 x ≠ -1 := by omega
        have ny : G 51 y ≠ -1 := by omega
        obtain ⟨dx, hx0⟩ : mf_dom n (G 51 x) ∧ 0 ≤ hd (G 51 x) := by
          rcases sx with z | z
          · exact absurd z nx
          · exact z
        obtain ⟨dy, hy0⟩ : mf_dom n (G 51 y) ∧ 0 ≤ hd (G 51 y) := by
          rcases sy with z | z
          · exact absurd z ny
          · exact z
        have bsx : 0 ≤ G 51 x ∧ G 51 x < 300 := ⟨dx.1, by have := dx.2; omega⟩
        have bsy : 0 ≤ G 51 y ∧ G 51 y < 300 := ⟨dy.1, by have := dy.2; omega⟩
        obtain ⟨g1, g2⟩ : G 43 (G 51 x) = hd (G 51 x) / 4 ∧ G 44 (G 51 x) = hd (G 51 x) % 4 := by
          rcases (hv.2 _ dx).1 with z | z
          · omega
          · exact z.2.2
        obtain ⟨g3, g4⟩ : G 43 (G 51 y) = hd (G 51 y) / 4 ∧ G 44 (G 51 y) = hd (G 51 y) % 4 := by
          rcases (hv.2 _ dy).1 with z | z
          · omega
          · exact z.2.2
        rw [h43, h44, g1, g2, g3, g4]
        refine ⟨bsx, bsy, fun z => ⟨by decide, tf_pi (Or.inr (Or.inl ⟨hne, hfr, nx, ny, fun z' => z (by rw [z']), rfl⟩))⟩, fun z => ⟨bsx, bsy, fun z2 => ?_, fun z2 => ⟨by decide, tf_pi (Or.inr (Or.inl ⟨hne, hfr, nx, ny, fun z' => z2 (by rw [z']), rfl⟩))⟩⟩⟩
        have hdd : hd (G 51 x) = hd (G 51 y) := by omega
        refine sp_85b (n := n) (hd := hd) (ch := ch) (hv.mf hfr) hn dx dy hx0 hdd (by rw [h42]; exact hw) ?_
        intro G' c1 c2 c3
        refine tf_pi (Or.inr (Or.inr ⟨hne, ?_, Or.inr (Or.inr hdd), rfl, hmm (G 51 x) (by rw [if_neg nx]) ?_ ?_, Or.inl ⟨nx, ny, ?_⟩⟩))
        · refine ⟨fun k a1 a2 a3 a4 => ?_, fun j hj => ?_⟩
          · rw [c2 k a1 a4, tf_upo a3, h3 k a2]
          · rw [c3 j hj, tf_upo (by decide), h3 42 (by decide)]
        · rw [c2 50 (by decide) (by decide), tf_upo (by decide)]
        · exact c2 51 (by decide) (by decide)
        · unfold mw at c1 ⊢
          rw [h42, h52] at c1
          exact c1
      · have nx : G 51 x ≠ -1 := by omega
        have ny : G 51 y = -1 := by
          rcases sy with z | z
          · exact z
          · have := z.1.1; omega
        refine ⟨Or.inr (Or.inl ny), rfl, hmm (G 51 x) (by rw [if_neg nx]) ?_ rfl, Or.inr ⟨Or.inr ny, w0 h42 h52⟩⟩
        rw [tf_upo (by decide)]
      · have nx : G 51 x = -1 := by
          rcases sx with z | z
          · exact z
          · have := z.1.1; omega
        refine ⟨Or.inl nx, rfl, hmm (G 51 y) (by rw [if_pos nx]) ?_ rfl, Or.inr ⟨Or.inl nx, w0 h42 h52⟩⟩
        rw [tf_upo (by decide)]
  refine key n.toNat G 0 (by omega) (by have := ha.1; have := ha.2; omega) (fun t ht => ?_) (fun _ _ => rfl)
  rw [if_neg (fun q => by have := ht.1; omega)]
end
