-- SPEC O: the class: one round over the endless trees
section
variable {l : Launch} {n : Int} {hd : Int → Int} {ch : Int → Int → Int} {rt sh : Int → Int}
/-- what stays as it was when the finite trees were found: F is the store then -/
def xfz (F G : tf_Sto) : Prop := xfr2 F G ∧ G 15 1 = F 15 1 ∧ G 24 7 = F 24 7 ∧ G 27 = F 27 ∧ G 25 = F 25 ∧ G 17 = F 17 ∧ G 18 = F 18 ∧ G 19 = F 19 ∧ (∀ x, x < F 15 1 → G 16 x = F 16 x) ∧ ∀ x k, x < F 15 1 → 0 ≤ k → k < 3 → G 20 (x * 3 + k) = F 20 (x * 3 + k)
/-- the finite trees are found, and every root that is open has one below it that is -/
def xFF (n : Int) (hd : Int → Int) (ch : Int → Int → Int) (rt sh : Int → Int) (F : tf_Sto) : Prop := xs n hd ch rt sh F ∧ xfi n hd ch rt sh F ∧ xop n hd rt sh F ∧ F 15 1 = F 15 0 ∧ ∀ j, mf_dom (F 24 7) j → xst hd ch rt sh F j
/-- the numbers of the roots -/
def xnu (n : Int) (rt : Int → Int) (F G : tf_Sto) : Prop := (∀ r, mf_dom n r → rt r = r → F 26 r ≠ -1 → G 26 r = F 26 r) ∧ ∀ j, mf_dom (F 24 7) j → F 15 1 ≤ G 26 (F 27 j) ∧ G 26 (F 27 j) < 300
def xnr (c m : Int) (f : Int → Int) : Prop := ∀ j, mf_dom m j → ∀ v, c ≤ v → v < f j → ∃ i, 0 ≤ i ∧ i < j ∧ f i = v
theorem xnr_eq {c m : Int} {f g : Int → Int} (hf : xnr c m f) (hg : xnr c m g) (h1 : ∀ j, mf_dom m j → c ≤ f j ∧ c ≤ g j) (hk : ∀ i j, mf_dom m i → mf_dom m j → (f i = f j ↔ g i = g j)) : ∀ j, mf_dom m j → f j = g j := by
  have key : ∀ (d : Nat) (j : Int), j < d → mf_dom m j → f j = g j := by
    intro d
    induction d with
    | zero => intro j hj hm; have := hm.1; omega
    | succ d ih =>
      intro j hj hm
      have hd : ∀ i, 0 ≤ i → i < j → mf_dom m i := fun i a b => ⟨a, by have := hm.2; omega⟩
      by_cases q : ∃ i, 0 ≤ i ∧ i < j ∧ f i = f j
      · obtain ⟨i, i0, i1, e⟩ := q
        rw [← e, ← (hk i j (hd i i0 i1) hm).mp e]
        exact ih i (by omega) (hd i i0 i1)
      · have q' : ¬ ∃ i, 0 ≤ i ∧ i < j ∧ g i = g j := by
          rintro ⟨i, i0, i1, e⟩
          exact q ⟨i, i0, i1, (hk i j (hd i i0 i1) hm).mpr e⟩
        have h2 : ¬ f j < g j := by
          intro z
          obtain ⟨i, i0, i1, e⟩ := hg j hm (f j) (h1 j hm).1 z
          exact q ⟨i, i0, i1, by rw [ih i (by omega) (hd i i0 i1)]; exact e⟩
        have h3 : ¬ g j < f j := by
          intro z
          obtain ⟨i, i0, i1, e⟩ := hf j hm (g j) (h1 j hm).2 z
          exact q' ⟨i, i0, i1, by rw [← ih i (by omega) (hd i i0 i1)]; exact e⟩
        omega
  intro j hj
  exact key (j.toNat + 1) j (by have := hj.1; omega) hj
/-- the root below an open root that is open -/
theorem xFF.low {F : tf_Sto} (h : xFF n hd ch rt sh F) {j : Int} (hj : mf_dom (F 24 7) j) : ∃ k i, 0 ≤ k ∧ k < mf_w (mh hd rt sh (F 27 j)) ∧ mf_dom (F 24 7) i ∧ rt (mc ch rt sh (F 27 j) k) = F 27 i := by
  obtain ⟨hx, hi, ho, -, hs⟩ := h
  obtain ⟨k, k0, k1, k2⟩ := hs j hj
  obtain ⟨a1, a2, a3, a4⟩ := ho.2.2.1 j hj
  obtain ⟨p1, p2, -⟩ := hx.par _ (mc_dom hx.par hx.2.2.1 a1 k0 k1).1
  obtain ⟨i, i1, i2⟩ := ho.2.2.2.2 _ p1 p2 k2
  exact ⟨k, i, k0, k1, i1, i2.symm⟩
/-- a root is found or open -/
theorem xFF.two {F : tf_Sto} (h : xFF n hd ch rt sh F) {r : Int} (hr : mf_dom n r) (er : rt r = r) : (mf_dom (F 15 1) (F 26 r) ∧ xrs n hd ch rt sh (F 15 1) F r) ∨ (F 26 r = -1 ∧ ∃ j, mf_dom (F 24 7) j ∧ F 27 j = r) := by
  obtain ⟨hx, hi, ho, hc, hs⟩ := h
  rcases hi.2.2.2.2.1 r hr er with q | q
  · exact Or.inr ⟨q.1, ho.2.2.2.2 r hr er q.1⟩
  · rw [hc]; exact Or.inl ⟨q.1, q⟩
set_option maxHeartbeats 4000000 in
theorem sp_58 {F G : tf_Sto} (hF : xFF n hd ch rt sh F) (hz : xfz F G) (hn : xnu n rt F G) (ht : xtab (G 15 0) G) (hc : F 15 1 ≤ G 15 0 ∧ G 15 0 ≤ 300) (hnl : ∀ x, F 15 1 ≤ x → x < G 15 0 → G 16 x ≠ -1) :
    tf_RUN l 58 [tf_r 24] G (tf_PV fun G' => ∃ f : Int → Int, xfz F G' ∧ xnu n rt F G' ∧ xtab (G' 15 0) G' ∧ (F 15 1 ≤ G' 15 0 ∧ G' 15 0 ≤ F 15 1 + F 24 7) ∧ (∀ x, F 15 1 ≤ x → x < G' 15 0 → 0 ≤ G' 16 x ∧ ∃ j, mf_dom (F 24 7) j ∧ f j = x) ∧
      (∀ j, mf_dom (F 24 7) j → G' 26 (F 27 j) = f j ∧ F 15 1 ≤ f j ∧ f j < G' 15 0 ∧ G' 16 (f j) = mh hd rt sh (F 27 j) ∧ ∀ k, 0 ≤ k → k < 3 → G' 20 (f j * 3 + k) = xt hd ch rt sh (G 26) (F 27 j) k) ∧ xnr (F 15 1) (F 24 7) f ∧
      ∀ i j, mf_dom (F 24 7) i → mf_dom (F 24 7) j → (f i = f j ↔ mh hd rt sh (F 27 i) = mh hd rt sh (F 27 j) ∧ ∀ k, 0 ≤ k → k < 3 → xt hd ch rt sh (G 26) (F 27 i) k = xt hd ch rt sh (G 26) (F 27 j) k)) := by
  have hxF := hF.1
  have hfiF := hF.2.1
  have hopF := hF.2.2.1
  have hcF := hF.2.2.2.1
  have h300 := hxF.2.1.2
  have hc0 : 0 ≤ F 15 1 := by rw [hcF]; exact hfiF.1
  have hlen : F 15 1 + F 24 7 ≤ 300 := by have := hopF.2.1; omega
  have ho0 := hopF.1
  obtain ⟨z1, z2, z3, z4, z5, z6, z7, z8, z9, z10⟩ := hz
  refine vc_58 (tf_rv (sp_49 ht (by rw [z2]; omega) (fun x a b => hnl x (by rw [z2] at a; exact a) b)) ?_)
  rintro G0 ⟨t0, c0, c1, f0⟩
  rw [z2] at t0 c0 c1
  have g16 : G0 16 = G 16 := f0 16 (by decide) (by decide)
  have g20 : G0 20 = G 20 := f0 20 (by decide) (by decide)
  have g26 : G0 26 = G 26 := f0 26 (by decide) (by decide)
  have g25 : G0 25 = G 25 := f0 25 (by decide) (by decide)
  have g27 : G0 27 = G 27 := f0 27 (by decide) (by decide)
  have g24 : G0 24 = G 24 := f0 24 (by decide) (by decide)
  generalize hPo : (tf_PV fun G' => ∃ f : Int → Int, xfz F G' ∧ xnu n rt F G' ∧ xtab (G' 15 0) G' ∧ (F 15 1 ≤ G' 15 0 ∧ G' 15 0 ≤ F 15 1 + F 24 7) ∧ (∀ x, F 15 1 ≤ x → x < G' 15 0 → 0 ≤ G' 16 x ∧ ∃ j, mf_dom (F 24 7) j ∧ f j = x) ∧
      (∀ j, mf_dom (F 24 7) j → G' 26 (F 27 j) = f j ∧ F 15 1 ≤ f j ∧ f j < G' 15 0 ∧ G' 16 (f j) = mh hd rt sh (F 27 j) ∧ ∀ k, 0 ≤ k → k < 3 → G' 20 (f j * 3 + k) = xt hd ch rt sh (G 26) (F 27 j) k) ∧ xnr (F 15 1) (F 24 7) f ∧
      ∀ i j, mf_dom (F 24 7) i → mf_dom (F 24 7) j → (f i = f j ↔ mh hd rt sh (F 27 i) = mh hd rt sh (F 27 j) ∧ ∀ k, 0 ≤ k → k < 3 → xt hd ch rt sh (G 26) (F 27 i) k = xt hd ch rt sh (G 26) (F 27 j) k)) = Po
  -- the numbers go over
  have k2 : ∀ (d : Nat) (G1 : tf_Sto) (a : Int), 0 ≤ a → a + d = F 24 7 → xfz F G1 → xtab (G1 15 0) G1 → (F 15 1 ≤ G1 15 0 ∧ G1 15 0 ≤ F 15 1 + F 24 7) →
      (∀ x, F 15 1 ≤ x → x < G1 15 0 → 0 ≤ G1 16 x ∧ ∃ j, mf_dom (F 24 7) j ∧ G1 28 j = x) → (∀ j, mf_dom (F 24 7) j → F 15 1 ≤ G1 28 j ∧ G1 28 j < G1 15 0 ∧ G1 16 (G1 28 j) = mh hd rt sh (F 27 j) ∧ ∀ k, 0 ≤ k → k < 3 → G1 20 (G1 28 j * 3 + k) = xt hd ch rt sh (G 26) (F 27 j) k) → xnr (F 15 1) (F 24 7) (G1 28) →
      (∀ i j, mf_dom (F 24 7) i → mf_dom (F 24 7) j → (G1 28 i = G1 28 j ↔ mh hd rt sh (F 27 i) = mh hd rt sh (F 27 j) ∧ ∀ k, 0 ≤ k → k < 3 → xt hd ch rt sh (G 26) (F 27 i) k = xt hd ch rt sh (G 26) (F 27 j) k)) →
      (∀ r, mf_dom n r → rt r = r → F 26 r ≠ -1 → G1 26 r = F 26 r) → (∀ j, 0 ≤ j → j < a → G1 26 (F 27 j) = G1 28 j) →
      tf_AW l 58 none Po 41 [(0, tf_r 24), (1, tf_i a)] [] (none, false) G1 := by
    intro d
    induction d with
    | zero =>
      intro G1 a a0 a1 hz1 q1 q2 q3 q4 q5 q6 q7 q8
      have e24 : G1 24 7 = F 24 7 := hz1.2.2.1
      refine vc_58_41 ⟨fun _ => ?_, fun z => by omega⟩
      rw [← hPo]
      refine tf_pv ⟨G1 28, hz1, ⟨q7, fun j hj => ?_⟩, q1, q2, q3, fun j hj => ⟨q8 j hj.1 (by have := hj.2; omega), q4 j hj⟩, q5, q6⟩
      rw [q8 j hj.1 (by have := hj.2; omega)]
      have := q4 j hj
      omega
    | succ d ih =>
      intro G1 a a0 a1 hz1 q1 q2 q3 q4 q5 q6 q7 q8
      have e24 : G1 24 7 = F 24 7 := hz1.2.2.1
      have e27 : G1 27 = F 27 := hz1.2.2.2.1
      have da : mf_dom (F 24 7) a := ⟨a0, by omega⟩
      obtain ⟨b1, b2, b3, b4⟩ := hopF.2.2.1 a da
      have bb := hxF.b b1
      refine vc_58_41 ⟨fun z => by omega, fun _ => ⟨by omega, by omega, by rw [e27]; exact bb, by omega, ?_⟩⟩
      rw [e27]
      refine ih _ _ (by omega) (by omega) ?_ ?_ ?_ ?_ ?_ ?_ ?_ ?_ ?_
      · obtain ⟨y1, y2, y3, y4, y5, y6, y7, y8, y9, y10⟩ := hz1
        refine ⟨y1.up (by omega) (by omega), ?_, ?_, ?_, ?_, ?_, ?_, ?_, ?_, ?_⟩
        · simp only [tf_upo, tf_upo', tf_up_eq, ne_eq, Nat.reduceEqDiff, not_false_eq_true, reduceCtorEq]
          exact y2
        · simp only [tf_upo, tf_upo', tf_up_eq, ne_eq, Nat.reduceEqDiff, not_false_eq_true, reduceCtorEq]
          exact y3
        · simp only [tf_upo, tf_upo', tf_up_eq, ne_eq, Nat.reduceEqDiff, not_false_eq_true, reduceCtorEq]
          exact y4
        · simp only [tf_upo, tf_upo', tf_up_eq, ne_eq, Nat.reduceEqDiff, not_false_eq_true, reduceCtorEq]
          exact y5
        · simp only [tf_upo, tf_upo', tf_up_eq, ne_eq, Nat.reduceEqDiff, not_false_eq_true, reduceCtorEq]
          exact y6
        · simp only [tf_upo, tf_upo', tf_up_eq, ne_eq, Nat.reduceEqDiff, not_false_eq_true, reduceCtorEq]
          exact y7
        · simp only [tf_upo, tf_upo', tf_up_eq, ne_eq, Nat.reduceEqDiff, not_false_eq_true, reduceCtorEq]
          exact y8
        · simp only [tf_upo, tf_upo', tf_up_eq, ne_eq, Nat.reduceEqDiff, not_false_eq_true, reduceCtorEq]
          exact y9
        · simp only [tf_upo, tf_upo', tf_up_eq, ne_eq, Nat.reduceEqDiff, not_false_eq_true, reduceCtorEq]
          exact y10
      · unfold xtab xmx
        simp only [tf_upo, tf_upo', tf_up_eq, ne_eq, Nat.reduceEqDiff, not_false_eq_true, reduceCtorEq]
        exact q1
      · simp only [tf_upo, tf_upo', tf_up_eq, ne_eq, Nat.reduceEqDiff, not_false_eq_true, reduceCtorEq]
        exact q2
      · simp only [tf_upo, tf_upo', tf_up_eq, ne_eq, Nat.reduceEqDiff, not_false_eq_true, reduceCtorEq]
        exact q3
      · simp only [tf_upo, tf_upo', tf_up_eq, ne_eq, Nat.reduceEqDiff, not_false_eq_true, reduceCtorEq]
        exact q4
      · rw [tf_upo (by decide)]
        exact q5
      · simp only [tf_upo, tf_upo', tf_up_eq, ne_eq, Nat.reduceEqDiff, not_false_eq_true, reduceCtorEq]
        exact q6
      · intro r r1 r2 r3
        rw [tf_up_eq, if_neg]
        · exact q7 r r1 r2 r3
        · intro e
          rw [e] at r3
          exact r3 b4
      · intro j j0 j1
        rw [tf_up_eq, tf_upo' (by decide)]
        by_cases e : j = a
        · rw [if_pos (by rw [e]), e]
        · rw [if_neg]
          · exact q8 j j0 (by omega)
          · intro z
            exact e (hopF.2.2.2.1 j a ⟨j0, by have := da.2; omega⟩ da z)
  -- the roots one by one
  have k1 : ∀ (d : Nat) (G1 : tf_Sto) (a : Int), 0 ≤ a → a + d = F 24 7 → xfz F G1 → G1 26 = G 26 → xtab (G1 15 0) G1 → (F 15 1 ≤ G1 15 0 ∧ G1 15 0 ≤ F 15 1 + a) →
      (∀ x, F 15 1 ≤ x → x < G1 15 0 → 0 ≤ G1 16 x ∧ ∃ j, 0 ≤ j ∧ j < a ∧ G1 28 j = x) → (∀ j, 0 ≤ j → j < a → F 15 1 ≤ G1 28 j ∧ G1 28 j < G1 15 0 ∧ G1 16 (G1 28 j) = mh hd rt sh (F 27 j) ∧ ∀ k, 0 ≤ k → k < 3 → G1 20 (G1 28 j * 3 + k) = xt hd ch rt sh (G 26) (F 27 j) k) → xnr (F 15 1) a (G1 28) →
      (∀ x y, F 15 1 ≤ x → x < G1 15 0 → F 15 1 ≤ y → y < G1 15 0 → G1 16 x = G1 16 y → (∀ k, 0 ≤ k → k < 3 → G1 20 (x * 3 + k) = G1 20 (y * 3 + k)) → x = y) →
      tf_AW l 58 none Po 9 [(0, tf_r 24), (1, tf_i a)] [] (none, false) G1 := by
    intro d
    induction d with
    | zero =>
      intro G1 a a0 a1 hz1 e26 q1 q2 q3 q4 q5 q6
      have e24 : G1 24 7 = F 24 7 := hz1.2.2.1
      have ea : a = F 24 7 := by omega
      subst ea
      refine vc_58_9 ⟨fun _ => k2 (F 24 7).toNat G1 0 (by omega) (by omega) hz1 q1 q2 (fun x x0 x1 => ?_) (fun j hj => q4 j hj.1 hj.2) q5 (fun i j hi hj => ?_) ?_ (fun j j0 j1 => by omega), fun z => by omega⟩
      · obtain ⟨y1, j, j0, j1, j2⟩ := q3 x x0 x1
        exact ⟨y1, j, ⟨j0, j1⟩, j2⟩
      · obtain ⟨u1, u2, u3, u4⟩ := q4 i hi.1 hi.2
        obtain ⟨w1, w2, w3, w4⟩ := q4 j hj.1 hj.2
        constructor
        · intro e
          rw [← u3, ← w3, e]
          refine ⟨rfl, fun k k0 k1 => ?_⟩
          rw [← u4 k k0 k1, ← w4 k k0 k1, e]
        · rintro ⟨e1, e2⟩
          refine q6 _ _ u1 u2 w1 w2 (by rw [u3, w3, e1]) (fun k k0 k1 => ?_)
          rw [u4 k k0 k1, w4 k k0 k1, e2 k k0 k1]
      · rw [e26]; exact hn.1
    | succ d ih =>
      intro G1 a a0 a1 hz1 e26 q1 q2 q3 q4 q5 q6
      have e24 : G1 24 7 = F 24 7 := hz1.2.2.1
      have e27 : G1 27 = F 27 := hz1.2.2.2.1
      have e25 : G1 25 = F 25 := hz1.2.2.2.2.1
      have hx1 := hxF.f2 hz1.1
      have da : mf_dom (F 24 7) a := ⟨a0, by omega⟩
      obtain ⟨b1, b2, b3, b4⟩ := hopF.2.2.1 a da
      have hrange : ∀ k, 0 ≤ k → k < mf_w (mh hd rt sh (F 27 a)) → -1 ≤ G 26 (rt (mc ch rt sh (F 27 a) k)) ∧ G 26 (rt (mc ch rt sh (F 27 a) k)) < 300 := by
        intro k k0 k1
        obtain ⟨p1, p2, -⟩ := hxF.par _ (mc_dom hxF.par hxF.2.2.1 b1 k0 k1).1
        rcases hF.two p1 p2 with ⟨y, -⟩ | ⟨-, j, j1, j2⟩
        · have y0 := y.1; have y1 := y.2
          rw [hn.1 _ p1 p2 (by omega)]
          omega
        · rw [← j2]
          have := hn.2 j j1
          omega
      refine vc_58_9 ⟨fun z => by omega, fun _ => ⟨by omega, ?_⟩⟩
      rw [e27]
      have hsp := sp_60 (l := l) hx1 (by rw [e25]; exact hfiF.2.2.2.2.2.2) b1 b2 b3 q1 ⟨by omega, by omega⟩ (by rw [e26]; exact hrange)
      rw [e26] at hsp
      refine tf_ri hsp ?_
      clear hsp
      have hw := mf_w_in (mh hd rt sh (F 27 a))
      obtain ⟨r1, r2, r3, r4, r5, r6, r7⟩ := hxF.root b1 b2 b3
      rintro v G2 (⟨dv, hm, rfl⟩ | ⟨rfl, hno, rfl⟩)
      · -- an old tree of this round
        obtain ⟨m1, m2⟩ := xmat_k (f := xt hd ch rt sh (G 26) (F 27 a)) hm
        have hv : F 15 1 ≤ v := by
          apply Classical.byContradiction
          intro hv
          obtain ⟨k, i, k0, k1', i1, i2⟩ := hF.low da
          have dvF : mf_dom (F 15 0) v := ⟨dv.1, by omega⟩
          have e16 := hz1.2.2.2.2.2.2.2.2.1 v (by omega)
          rcases (hfiF.2.2.1 v dvF).2.2 with y | y
          · rw [← e16, m1] at y; exact b3 y.1
          · have y3 := y.2.2.1 k k0 (by rw [← e16, m1]; exact k1')
            rw [← hz1.2.2.2.2.2.2.2.2.2 v k (by omega) k0 (by omega), m2 k k0 (by omega)] at y3
            unfold xt at y3
            rw [if_pos k1', i2] at y3
            have := (hn.2 i i1).1
            have := y3.2
            omega
        have u28 : ∀ j, tf_up G2 28 a v 28 j = if j = a then v else G2 28 j := fun j => tf_up_eq
        have hfr : ∀ k : Nat, k ≠ 28 → tf_up G2 28 a v k = G2 k := fun k hk => tf_upo hk
        refine ⟨by omega, by omega, ih _ _ (by omega) (by omega) ?_ ?_ ?_ ?_ ?_ ?_ ?_ ?_⟩
        · obtain ⟨y1, y2, y3, y4, y5, y6, y7, y8, y9, y10⟩ := hz1
          unfold xfz
          rw [hfr 15 (by decide), hfr 24 (by decide), hfr 27 (by decide), hfr 25 (by decide), hfr 17 (by decide), hfr 18 (by decide), hfr 19 (by decide), hfr 16 (by decide), hfr 20 (by decide)]
          exact ⟨y1.up (by omega) (by omega), y2, y3, y4, y5, y6, y7, y8, y9, y10⟩
        · rw [hfr 26 (by decide)]; exact e26
        · unfold xtab xmx
          rw [hfr 15 (by decide), hfr 16 (by decide), hfr 20 (by decide), hfr 21 (by decide), hfr 22 (by decide), hfr 23 (by decide)]
          exact q1
        · rw [hfr 15 (by decide)]; omega
        · rw [hfr 15 (by decide), hfr 16 (by decide)]
          intro x x0 x1
          obtain ⟨y1, j, j0, j1, j2⟩ := q3 x x0 x1
          exact ⟨y1, j, j0, by omega, by rw [u28, if_neg (by omega)]; exact j2⟩
        · rw [hfr 15 (by decide), hfr 16 (by decide), hfr 20 (by decide)]
          intro j j0 j1
          rw [u28]
          by_cases e : j = a
          · rw [if_pos e, e]; exact ⟨hv, dv.2, m1, m2⟩
          · rw [if_neg e]; exact q4 j j0 (by omega)
        · intro j hj w w0 w1
          rw [u28] at w1
          have j0 := hj.1; have j1 := hj.2
          by_cases e : j = a
          · rw [if_pos e] at w1
            obtain ⟨-, i, i0, i1, i2⟩ := q3 v hv dv.2
            obtain ⟨i', i0', i1', i2'⟩ := q5 i ⟨i0, i1⟩ w w0 (by rw [i2]; exact w1)
            exact ⟨i', i0', by omega, by rw [u28, if_neg (by omega)]; exact i2'⟩
          · rw [if_neg e] at w1
            obtain ⟨i, i0, i1, i2⟩ := q5 j ⟨j0, by omega⟩ w w0 w1
            exact ⟨i, i0, i1, by rw [u28, if_neg (by omega)]; exact i2⟩
        · rw [hfr 15 (by decide), hfr 16 (by decide), hfr 20 (by decide)]
          exact q6
      · -- a new one
        have hb : ∀ k, 0 ≤ k → k < 3 → xnew G1 (mh hd rt sh (F 27 a)) (xt hd ch rt sh (G 26) (F 27 a) 0) (xt hd ch rt sh (G 26) (F 27 a) 1) (xt hd ch rt sh (G 26) (F 27 a) 2) 20 (G1 15 0 * 3 + k) = xt hd ch rt sh (G 26) (F 27 a) k := fun k k0 k1 => xnew_20n (f := xt hd ch rt sh (G 26) (F 27 a)) k0 k1
        have htn := xtab_new (h := mh hd rt sh (F 27 a)) (a := xt hd ch rt sh (G 26) (F 27 a) 0) (b := xt hd ch rt sh (G 26) (F 27 a) 1) (d := xt hd ch rt sh (G 26) (F 27 a) 2) q1 (by omega) (by omega)
        have n15 : xnew G1 (mh hd rt sh (F 27 a)) (xt hd ch rt sh (G 26) (F 27 a) 0) (xt hd ch rt sh (G 26) (F 27 a) 1) (xt hd ch rt sh (G 26) (F 27 a) 2) 15 0 = G1 15 0 + 1 := xnew_n
        have n16 : ∀ x, xnew G1 (mh hd rt sh (F 27 a)) (xt hd ch rt sh (G 26) (F 27 a) 0) (xt hd ch rt sh (G 26) (F 27 a) 1) (xt hd ch rt sh (G 26) (F 27 a) 2) 16 x = if x = G1 15 0 then mh hd rt sh (F 27 a) else G1 16 x := fun x => xnew_16
        have n20 : ∀ x k, x < G1 15 0 → 0 ≤ k → k < 3 → xnew G1 (mh hd rt sh (F 27 a)) (xt hd ch rt sh (G 26) (F 27 a) 0) (xt hd ch rt sh (G 26) (F 27 a) 1) (xt hd ch rt sh (G 26) (F 27 a) 2) 20 (x * 3 + k) = G1 20 (x * 3 + k) := fun x k p q r => xnew_20o p q r
        have no : ∀ k : Nat, k ≠ 15 ∧ k ≠ 16 ∧ k ≠ 20 ∧ k ≠ 21 ∧ k ≠ 22 ∧ k ≠ 23 → xnew G1 (mh hd rt sh (F 27 a)) (xt hd ch rt sh (G 26) (F 27 a) 0) (xt hd ch rt sh (G 26) (F 27 a) 1) (xt hd ch rt sh (G 26) (F 27 a) 2) k = G1 k := fun k hk => xnew_o hk
        have nf : ∀ j, j ≠ 0 → xnew G1 (mh hd rt sh (F 27 a)) (xt hd ch rt sh (G 26) (F 27 a) 0) (xt hd ch rt sh (G 26) (F 27 a) 1) (xt hd ch rt sh (G 26) (F 27 a) 2) 15 j = G1 15 j := fun j hj => xnew_f hj
        generalize xnew G1 (mh hd rt sh (F 27 a)) (xt hd ch rt sh (G 26) (F 27 a) 0) (xt hd ch rt sh (G 26) (F 27 a) 1) (xt hd ch rt sh (G 26) (F 27 a) 2) = G2 at *
        have u28 : ∀ j, tf_up G2 28 a (G1 15 0) 28 j = if j = a then G1 15 0 else G1 28 j := fun j => by rw [tf_up_eq, no 28 (by decide)]
        have hfr : ∀ k : Nat, k ≠ 28 → tf_up G2 28 a (G1 15 0) k = G2 k := fun k hk => tf_upo hk
        refine ⟨by omega, by omega, ih _ _ (by omega) (by omega) ?_ ?_ ?_ ?_ ?_ ?_ ?_ ?_⟩
        · obtain ⟨y1, y2, y3, y4, y5, y6, y7, y8, y9, y10⟩ := hz1
          unfold xfz
          rw [hfr 15 (by decide), hfr 24 (by decide), hfr 27 (by decide), hfr 25 (by decide), hfr 17 (by decide), hfr 18 (by decide), hfr 19 (by decide), hfr 16 (by decide), hfr 20 (by decide), nf 1 (by decide), no 24 (by decide), no 27 (by decide), no 25 (by decide), no 17 (by decide), no 18 (by decide), no 19 (by decide)]
          refine ⟨?_, y2, y3, y4, y5, y6, y7, y8, fun x hxx => ?_, fun x k hxx k0 k1 => ?_⟩
          · refine xfr2.up ⟨fun k hk => ?_, ?_⟩ (by omega) (by omega)
            · rw [no k (by omega)]; exact y1.1 k hk
            · rw [no 24 (by decide)]; exact y1.2
          · rw [n16, if_neg (by omega)]; exact y9 x hxx
          · rw [n20 x k (by omega) k0 k1]; exact y10 x k hxx k0 k1
        · rw [hfr 26 (by decide), no 26 (by decide)]; exact e26
        · unfold xtab xmx
          rw [hfr 15 (by decide), hfr 16 (by decide), hfr 20 (by decide), hfr 21 (by decide), hfr 22 (by decide), hfr 23 (by decide), n15]
          exact htn
        · rw [hfr 15 (by decide), n15]; omega
        · rw [hfr 15 (by decide), hfr 16 (by decide), n15]
          intro x x0 x1
          rw [n16]
          by_cases e : x = G1 15 0
          · rw [if_pos e]
            exact ⟨by omega, a, a0, by omega, by rw [u28, if_pos rfl, e]⟩
          · rw [if_neg e]
            obtain ⟨y1, j, j0, j1, j2⟩ := q3 x x0 (by omega)
            exact ⟨y1, j, j0, by omega, by rw [u28, if_neg (by omega)]; exact j2⟩
        · rw [hfr 15 (by decide), hfr 16 (by decide), hfr 20 (by decide), n15]
          intro j j0 j1
          rw [u28]
          by_cases e : j = a
          · rw [if_pos e, e]
            exact ⟨by omega, by omega, by rw [n16, if_pos rfl], hb⟩
          · rw [if_neg e]
            obtain ⟨y1, y2, y3, y4⟩ := q4 j j0 (by omega)
            refine ⟨y1, by omega, by rw [n16, if_neg (by omega)]; exact y3, fun k k0 k1 => ?_⟩
            rw [n20 _ k y2 k0 k1]; exact y4 k k0 k1
        · intro j hj w w0 w1
          rw [u28] at w1
          have j0 := hj.1; have j1 := hj.2
          by_cases e : j = a
          · rw [if_pos e] at w1
            obtain ⟨-, i, i0, i1, i2⟩ := q3 w w0 w1
            exact ⟨i, i0, by omega, by rw [u28, if_neg (by omega)]; exact i2⟩
          · rw [if_neg e] at w1
            obtain ⟨i, i0, i1, i2⟩ := q5 j ⟨j0, by omega⟩ w w0 w1
            exact ⟨i, i0, i1, by rw [u28, if_neg (by omega)]; exact i2⟩
        · rw [hfr 15 (by decide), hfr 16 (by decide), hfr 20 (by decide), n15]
          intro x y x0 x1 y0 y1
          rw [n16, n16]
          by_cases e : x = G1 15 0 <;> by_cases e' : y = G1 15 0
          · intro _ _; rw [e, e']
          · rw [if_pos e, if_neg e']
            intro p1 p2
            exfalso
            refine hno y ⟨by omega, by omega⟩ (xmat_of (f := xt hd ch rt sh (G 26) (F 27 a)) p1.symm (fun k k0 k1 => ?_))
            rw [← n20 y k (by omega) k0 k1, ← p2 k k0 k1, e, hb k k0 k1]
          · rw [if_neg e, if_pos e']
            intro p1 p2
            exfalso
            refine hno x ⟨by omega, by omega⟩ (xmat_of (f := xt hd ch rt sh (G 26) (F 27 a)) p1 (fun k k0 k1 => ?_))
            rw [← n20 x k (by omega) k0 k1, p2 k k0 k1, e', hb k k0 k1]
          · rw [if_neg e, if_neg e']
            intro p1 p2
            refine q6 x y x0 (by omega) y0 (by omega) p1 (fun k k0 k1 => ?_)
            rw [← n20 x k (by omega) k0 k1, ← n20 y k (by omega) k0 k1]
            exact p2 k k0 k1
  refine k1 (F 24 7).toNat G0 0 (by omega) (by omega) ?_ g26 (by rw [c0]; exact t0) (by omega) (fun x x0 x1 => by omega) (fun j j0 j1 => by omega) (fun j hj => by have := hj.1; have := hj.2; omega) (fun x y x0 x1 => by omega)
  unfold xfz
  rw [g24, g27, g25, f0 17 (by decide) (by decide), f0 18 (by decide) (by decide), f0 19 (by decide) (by decide), g16, g20]
  refine ⟨⟨fun k hk => ?_, ?_⟩, c1, z3, z4, z5, z6, z7, z8, z9, z10⟩
  · rw [f0 k (by omega) (by omega)]; exact z1.1 k hk
  · rw [g24]; exact z1.2
end
