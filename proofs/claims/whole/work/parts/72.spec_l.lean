-- SPEC L: the class: trees below a root; the leaves
/-- the terms and their classes, as the class holds them -/
def xs (n : Int) (hd : Int → Int) (ch : Int → Int → Int) (rt sh : Int → Int) (G : tf_Sto) : Prop := G 1 0 = n ∧ (0 ≤ n ∧ n ≤ 300) ∧ mf_wf n hd ch ∧ (∀ t, mf_dom n t → G 2 t = hd t) ∧ (∀ t k, G 3 (t * 3 + k) = ch t k) ∧ (∀ t, mf_dom n t → G 7 t = sh t) ∧
  ∃ (i : Int) (w dp : Int → Int), i < 300 ∧ xo n hd i (G 5) w sh rt dp
theorem xs.fr {n : Int} {hd : Int → Int} {ch : Int → Int → Int} {rt sh : Int → Int} {G G' : tf_Sto} (h : xs n hd ch rt sh G) (e : ∀ k : Nat, k ≤ 10 → G' k = G k) : xs n hd ch rt sh G' := by
  unfold xs
  rw [e 1 (by decide), e 2 (by decide), e 3 (by decide), e 5 (by decide), e 7 (by decide)]
  exact h
theorem xs.par {n : Int} {hd : Int → Int} {ch : Int → Int → Int} {rt sh : Int → Int} {G : tf_Sto} (h : xs n hd ch rt sh G) : mf_par n hd rt sh := by
  obtain ⟨-, -, -, -, -, -, i, w, dp, -, h⟩ := h
  exact h.2.1
theorem xs.b {n : Int} {hd : Int → Int} {ch : Int → Int → Int} {rt sh : Int → Int} {G : tf_Sto} (h : xs n hd ch rt sh G) {t : Int} (ht : mf_dom n t) : 0 ≤ t ∧ t < 300 := ⟨ht.1, by have := ht.2; have := h.2.1.2; omega⟩
section
variable {l : Launch} {G : tf_Sto} {n : Int} {hd : Int → Int} {ch : Int → Int → Int} {rt sh : Int → Int}
/-- the number of the tree at the place k below a root, -1 beyond the last -/
def xt (hd : Int → Int) (ch : Int → Int → Int) (rt sh o : Int → Int) (r k : Int) : Int := if k < mf_w (mh hd rt sh r) then o (rt (mc ch rt sh r k)) else -1
theorem sp_61 (hx : xs n hd ch rt sh G) (hr : ∀ t, mf_dom n t → G 25 t = rt t) {t k : Int} (ht : mf_dom n t) (h0 : 0 ≤ hd t) (k0 : 0 ≤ k) (k1 : k < hd t % 4) : tf_RUN l 61 [tf_r 24, tf_i t, tf_i k] G (tf_PI fun r G' => r = G 26 (rt (ch t k)) ∧ G' = G) := by
  have hc := mf_wf_ch hx.2.2.1 ht h0 k0 k1
  have e : G 3 (t * 3 + k) = ch t k := hx.2.2.2.2.1 t k
  have hrt := (hx.par _ hc).1
  have bt := hx.b ht
  refine vc_61 ⟨by omega, by omega, by omega, ?_⟩
  rw [e]
  refine ⟨hx.b hc, ?_, tf_pi ⟨?_, rfl⟩⟩
  · rw [hr _ hc]; exact hx.b hrt
  · rw [hr _ hc]
theorem xs.root {r : Int} (hx : xs n hd ch rt sh G) (hr : mf_dom n r) (er : rt r = r) (hl : mh hd rt sh r ≠ -1) : sh r ≠ -1 ∧ mf_dom n (sh r) ∧ 0 ≤ hd (sh r) ∧ hd (sh r) < 64 ∧ mh hd rt sh r = hd (sh r) ∧ mf_w (mh hd rt sh r) = hd (sh r) % 4 ∧ ∀ k, mc ch rt sh r k = ch (sh r) k := by
  rcases mh_in hx.par hx.2.2.1 hr with ⟨q, -⟩ | ⟨q1, q2, q3, q4, q5⟩
  · exact absurd q hl
  · rw [er] at q3 q4 q5
    refine ⟨q3, q4, by omega, by omega, q5, ?_, fun k => by unfold mc; rw [er]⟩
    unfold mf_w
    rw [if_neg hl, q5]
theorem sp_59 (hx : xs n hd ch rt sh G) (hr : ∀ t, mf_dom n t → G 25 t = rt t) {r : Int} (hd1 : mf_dom n r) (er : rt r = r) (hl : mh hd rt sh r ≠ -1) :
    tf_RUN l 59 [tf_r 24, tf_i r] G (tf_PI fun v G' => G' = G ∧ ((v = 1 ∧ ∀ k, 0 ≤ k → k < mf_w (mh hd rt sh r) → G 26 (rt (mc ch rt sh r k)) ≠ -1) ∨ (v = 0 ∧ ∃ k, 0 ≤ k ∧ k < mf_w (mh hd rt sh r) ∧ G 26 (rt (mc ch rt sh r k)) = -1))) := by
  obtain ⟨r1, r2, r3, r4, r5, r6, r7⟩ := hx.root hd1 er hl
  refine vc_59 (tf_re (sp_29 (hx.b hd1)) ?_)
  rw [hx.2.2.2.2.2.1 r hd1, hx.2.2.2.1 _ r2]
  refine ⟨hx.b r2, tf_re (sp_24 (Or.inr r3)) ?_⟩
  have ew : mf_w (hd (sh r)) = hd (sh r) % 4 := by rw [← r6, r5]
  rw [ew, r6]
  have key : ∀ (d : Nat) (k : Int), 0 ≤ k → k + d = hd (sh r) % 4 → (∀ j, 0 ≤ j → j < k → G 26 (rt (mc ch rt sh r j)) ≠ -1) → tf_AW l 59 none (tf_PI fun v G' => G' = G ∧ ((v = 1 ∧ ∀ k, 0 ≤ k → k < hd (sh r) % 4 → G 26 (rt (mc ch rt sh r k)) ≠ -1) ∨ (v = 0 ∧ ∃ k, 0 ≤ k ∧ k < hd (sh r) % 4 ∧ G 26 (rt (mc ch rt sh r k)) = -1))) 25 [(0, tf_r 24), (2, tf_i (sh r)), (3, tf_i (hd (sh r) % 4)), (4, tf_i k)] [] (none, false) G := by
    intro d
    induction d with
    | zero =>
      intro k k0 k1 h
      exact vc_59_25 ⟨fun _ => ⟨by decide, tf_pi ⟨rfl, Or.inl ⟨rfl, fun j j0 j1 => h j j0 (by omega)⟩⟩⟩, fun z => by omega⟩
    | succ d ih =>
      intro k k0 k1 h
      refine vc_59_25 ⟨fun z => by omega, fun _ => tf_re (sp_61 hx hr r2 r3 k0 (by omega)) ⟨fun q => ⟨by omega, ih _ (by omega) (by omega) ?_⟩, fun q => ⟨by decide, tf_pi ⟨rfl, Or.inr ⟨rfl, k, k0, by omega, ?_⟩⟩⟩⟩⟩
      · intro j j0 j1
        by_cases e : j = k
        · rw [e, r7]; exact q
        · exact h j j0 (by omega)
      · rw [r7]; exact q
  exact key (hd (sh r) % 4).toNat 0 (by omega) (by omega) (fun j j0 j1 => by omega)
set_option maxHeartbeats 1000000 in
theorem sp_60 (hx : xs n hd ch rt sh G) (hr : ∀ t, mf_dom n t → G 25 t = rt t) {r : Int} (hd1 : mf_dom n r) (er : rt r = r) (hl : mh hd rt sh r ≠ -1) (ht : xtab (G 15 0) G) (hc : 0 ≤ G 15 0 ∧ G 15 0 < 300) (ho : ∀ k, 0 ≤ k → k < mf_w (mh hd rt sh r) → -1 ≤ G 26 (rt (mc ch rt sh r k)) ∧ G 26 (rt (mc ch rt sh r k)) < 300) :
    tf_RUN l 60 [tf_r 24, tf_i r] G (tf_PI fun v G' => (mf_dom (G 15 0) v ∧ xmat G (mh hd rt sh r) (xt hd ch rt sh (G 26) r 0) (xt hd ch rt sh (G 26) r 1) (xt hd ch rt sh (G 26) r 2) v ∧ G' = G) ∨
      (v = G 15 0 ∧ (∀ x, mf_dom (G 15 0) x → ¬ xmat G (mh hd rt sh r) (xt hd ch rt sh (G 26) r 0) (xt hd ch rt sh (G 26) r 1) (xt hd ch rt sh (G 26) r 2) x) ∧ G' = xnew G (mh hd rt sh r) (xt hd ch rt sh (G 26) r 0) (xt hd ch rt sh (G 26) r 1) (xt hd ch rt sh (G 26) r 2))) := by
  obtain ⟨r1, r2, r3, r4, r5, r6, r7⟩ := hx.root hd1 er hl
  have hrange : ∀ k, 0 ≤ k → -1 ≤ xt hd ch rt sh (G 26) r k ∧ xt hd ch rt sh (G 26) r k < 300 := by
    intro k k0
    unfold xt
    split
    · exact ho k k0 (by assumption)
    · omega
  have hsp := sp_45 (l := l) ht hc (h := mh hd rt sh r) (a := xt hd ch rt sh (G 26) r 0) (b := xt hd ch rt sh (G 26) r 1) (d := xt hd ch rt sh (G 26) r 2) (by rw [r5]; exact ⟨r3, r4⟩) (hrange 0 (by omega)) (hrange 1 (by omega)) (hrange 2 (by omega))
  have ew : mf_w (hd (sh r)) = hd (sh r) % 4 := by rw [← r6, r5]
  have fin : ∀ a b d, a = xt hd ch rt sh (G 26) r 0 → b = xt hd ch rt sh (G 26) r 1 → d = xt hd ch rt sh (G 26) r 2 → tf_RUN l 45 [tf_r 15, tf_i (hd (sh r)), tf_i a, tf_i b, tf_i d] G (fun o G' => ∃ v : Int, o = .inl (some (tf_i v)) ∧
      (tf_PI fun v G' => (mf_dom (G 15 0) v ∧ xmat G (mh hd rt sh r) (xt hd ch rt sh (G 26) r 0) (xt hd ch rt sh (G 26) r 1) (xt hd ch rt sh (G 26) r 2) v ∧ G' = G) ∨
      (v = G 15 0 ∧ (∀ x, mf_dom (G 15 0) x → ¬ xmat G (mh hd rt sh r) (xt hd ch rt sh (G 26) r 0) (xt hd ch rt sh (G 26) r 1) (xt hd ch rt sh (G 26) r 2) x) ∧ G' = xnew G (mh hd rt sh r) (xt hd ch rt sh (G 26) r 0) (xt hd ch rt sh (G 26) r 1) (xt hd ch rt sh (G 26) r 2))) (.inl (some (tf_i v))) G') := by
    rintro a b d rfl rfl rfl
    rw [← r5]
    exact tf_ri hsp (fun v G' h => tf_pi h)
  have hlt : ∀ k, k < hd (sh r) % 4 → G 26 (rt (ch (sh r) k)) = xt hd ch rt sh (G 26) r k := by
    intro k hk
    unfold xt
    rw [r6, if_pos hk, r7]
  have hge : ∀ k, hd (sh r) % 4 ≤ k → -1 = xt hd ch rt sh (G 26) r k := by
    intro k hk
    unfold xt
    rw [r6, if_neg (by omega)]
  refine vc_60 (tf_re (sp_29 (hx.b hd1)) ?_)
  rw [hx.2.2.2.2.2.1 r hd1, hx.2.2.2.1 _ r2]
  refine ⟨hx.b r2, tf_re (sp_24 (Or.inr r3)) ?_⟩
  rw [ew]
  refine ⟨fun q => ⟨fun _ => ⟨fun _ => ?_, fun z => by omega⟩, fun z => by omega⟩, fun q => tf_re (sp_61 hx hr r2 r3 (by omega) (by omega)) ⟨fun q1 => ⟨fun _ => ?_, fun z => by omega⟩, fun q1 => tf_re (sp_61 hx hr r2 r3 (by omega) (by omega)) ⟨fun q2 => ?_, fun q2 => tf_re (sp_61 hx hr r2 r3 (by omega) (by omega)) ?_⟩⟩⟩
  · exact fin _ _ _ (hge 0 (by omega)) (hge 1 (by omega)) (hge 2 (by omega))
  · exact fin _ _ _ (hlt 0 (by omega)) (hge 1 (by omega)) (hge 2 (by omega))
  · exact fin _ _ _ (hlt 0 (by omega)) (hlt 1 (by omega)) (hge 2 (by omega))
  · exact fin _ _ _ (hlt 0 (by omega)) (hlt 1 (by omega)) (hlt 2 (by omega))
/-- the least term of a class -/
def xls (n : Int) (rt : Int → Int) (r u : Int) : Prop := mf_dom n u ∧ rt u = r ∧ ∀ s, 0 ≤ s → s < u → rt s ≠ r
/-- what the search for leaves leaves -/
def xlv (n : Int) (hd : Int → Int) (rt sh : Int → Int) (t : Int) (G : tf_Sto) : Prop :=
  (0 ≤ G 15 0 ∧ 0 ≤ G 24 7 ∧ G 15 0 + G 24 7 ≤ t) ∧ (∀ s, 0 ≤ s → s < t → G 25 s = rt s) ∧ (∀ x, mf_dom (G 15 0) x → G 16 x = -1 ∧ G 18 x = 1 ∧ G 19 x = 0 ∧ ∃ r, mf_dom n r ∧ rt r = r ∧ G 26 r = x) ∧
  (∀ r, mf_dom n r → rt r = r → mh hd rt sh r = -1 → (G 26 r = -1 ∧ ∀ s, 0 ≤ s → s < t → rt s ≠ r) ∨ (mf_dom (G 15 0) (G 26 r) ∧ xls n rt r (G 17 (G 26 r)))) ∧
  (∀ r, mf_dom n r → rt r = r → mh hd rt sh r ≠ -1 → G 26 r = -1 ∧ (r < t → ∃ j, mf_dom (G 24 7) j ∧ G 27 j = r)) ∧
  (∀ j, mf_dom (G 24 7) j → mf_dom n (G 27 j) ∧ rt (G 27 j) = G 27 j ∧ mh hd rt sh (G 27 j) ≠ -1 ∧ G 27 j < t) ∧ ∀ i j, mf_dom (G 24 7) i → mf_dom (G 24 7) j → G 27 i = G 27 j → i = j
def xfr2 (G G' : tf_Sto) : Prop := (∀ k : Nat, (k < 15 ∨ 28 < k) → G' k = G k) ∧ G' 24 8 = G 24 8
theorem xfr2.refl {G : tf_Sto} : xfr2 G G := ⟨fun _ _ => rfl, rfl⟩
theorem xfr2.trans {G G' G'' : tf_Sto} (h : xfr2 G G') (h' : xfr2 G' G'') : xfr2 G G'' := ⟨fun k hk => (h'.1 k hk).trans (h.1 k hk), h'.2.trans h.2⟩
theorem xfr2.up {G G' : tf_Sto} (h : xfr2 G G') {k : Nat} {i v : Int} (hk : 15 ≤ k ∧ k ≤ 28) (hi : k ≠ 24 ∨ i ≠ 8) : xfr2 G (tf_up G' k i v) := by
  refine ⟨fun k' hk' => ?_, ?_⟩
  · rw [tf_upo (by omega)]; exact h.1 k' hk'
  · by_cases e : k = 24
    · subst e
      rw [tf_up_eq, if_neg (by omega)]
      exact h.2
    · rw [tf_upo (fun q => e q.symm)]
      exact h.2
theorem xs.f2 {G' : tf_Sto} (hx : xs n hd ch rt sh G) (h : xfr2 G G') : xs n hd ch rt sh G' := hx.fr (fun k hk => h.1 k (by omega))
set_option maxHeartbeats 4000000 in
theorem sp_54 (hx : xs n hd ch rt sh G) (hc : G 15 0 = 0) : tf_RUN l 54 [tf_r 24] G (tf_PV fun G' => xfr2 G G' ∧ G' 15 1 = G 15 1 ∧ G' 21 = G 21 ∧ xlv n hd rt sh n G') := by
  refine vc_54 (tf_rv sp_fI26 ?_)
  rintro G0 ⟨f1, f2⟩
  have key : ∀ (d : Nat) (G1 : tf_Sto) (t : Int), 0 ≤ t → t + d = n → xfr2 G G1 → G1 15 1 = G 15 1 → G1 21 = G 21 → xlv n hd rt sh t G1 → tf_AW l 54 none (tf_PV fun G' => xfr2 G G' ∧ G' 15 1 = G 15 1 ∧ G' 21 = G 21 ∧ xlv n hd rt sh n G') 15 [(0, tf_r 24), (1, tf_i t)] [] (none, false) G1 := by
    intro d
    induction d with
    | zero =>
      intro G1 t t0 t1 hf g1 g2 hv
      have hx1 := hx.f2 hf
      have en : G1 1 0 = n := hx1.1
      have e : t = n := by omega
      subst e
      exact vc_54_15 ⟨fun _ => tf_pv ⟨hf, g1, g2, hv⟩, fun z => by omega⟩
    | succ d ih =>
      intro G1 t t0 t1 hf g1 g2 hv
      have hx1 := hx.f2 hf
      have en : G1 1 0 = n := hx1.1
      have h300 := hx.2.1.2
      have dt : mf_dom n t := ⟨t0, by omega⟩
      obtain ⟨i, w, dp, hi, ho⟩ := hx1.2.2.2.2.2.2
      obtain ⟨p1, p2, p3⟩ := hx1.par t dt
      obtain ⟨v1, v2, v3, v4, v5, v6, v7⟩ := hv
      have b1 := hx1.b p1
      refine vc_54_15 ⟨fun z => by omega, fun _ => tf_re (sp_28 ho h300 hi dt) ⟨by omega, ?_⟩⟩
      have hsp := sp_29 (l := l) (G := tf_up G1 25 t (rt t)) b1
      rw [tf_upo' (by decide), hx1.2.2.2.2.2.1 _ p1] at hsp
      refine tf_re hsp ?_
      have em : mh hd rt sh (rt t) = mh hd rt sh t := by unfold mh; rw [p2]
      -- the roots' array
      have n2 : ∀ s, 0 ≤ s → s < t + 1 → (if s = t then rt t else G1 25 s) = rt s := by
        intro s s0 s1
        by_cases e : s = t
        · rw [if_pos e, e]
        · rw [if_neg e]; exact v2 s s0 (by omega)
      refine ⟨fun q => ⟨b1, fun q2 => ⟨by omega, ?_⟩, fun q2 => ?_⟩, fun q => ⟨fun q2 => ⟨by omega, ?_⟩, fun q2 => ⟨?_, ?_, by omega, ?_⟩⟩⟩
      · -- a leaf that is known
        rw [tf_upo' (by decide)] at q2
        have hl : mh hd rt sh (rt t) = -1 := by unfold mh; rw [p2, if_pos q]
        refine ih _ _ (by omega) (by omega) (hf.up (by omega) (by omega)) ?_ ?_ ⟨?_, ?_, ?_, ?_, ?_, ?_, ?_⟩
        · simp only [tf_upo, tf_upo', tf_up_eq, ne_eq, Nat.reduceEqDiff, not_false_eq_true, reduceCtorEq]
          exact g1
        · simp only [tf_upo, tf_upo', tf_up_eq, ne_eq, Nat.reduceEqDiff, not_false_eq_true, reduceCtorEq]
          exact g2
        · simp only [tf_upo, tf_upo', tf_up_eq, ne_eq, Nat.reduceEqDiff, not_false_eq_true, reduceCtorEq]
          omega
        · simp only [tf_upo, tf_upo', tf_up_eq, ne_eq, Nat.reduceEqDiff, not_false_eq_true, reduceCtorEq]
          exact n2
        · simp only [tf_upo, tf_upo', tf_up_eq, ne_eq, Nat.reduceEqDiff, not_false_eq_true, reduceCtorEq]
          exact v3
        · simp only [tf_upo, tf_upo', tf_up_eq, ne_eq, Nat.reduceEqDiff, not_false_eq_true, reduceCtorEq]
          intro r hr er hlr
          rcases v4 r hr er hlr with ⟨z1, z2⟩ | z
          · refine Or.inl ⟨z1, fun s s0 s1 => ?_⟩
            by_cases e : s = t
            · rw [e]; intro z; rw [z] at q2; exact q2 z1
            · exact z2 s s0 (by omega)
          · exact Or.inr z
        · simp only [tf_upo, tf_upo', tf_up_eq, ne_eq, Nat.reduceEqDiff, not_false_eq_true, reduceCtorEq]
          intro r hr er hlr
          refine ⟨(v5 r hr er hlr).1, fun z => (v5 r hr er hlr).2 ?_⟩
          have : r ≠ t := fun e => by rw [e] at hlr er; rw [er] at hl; exact hlr hl
          omega
        · simp only [tf_upo, tf_upo', tf_up_eq, ne_eq, Nat.reduceEqDiff, not_false_eq_true, reduceCtorEq]
          intro j hj
          obtain ⟨a1, a2, a3, a4⟩ := v6 j hj
          exact ⟨a1, a2, a3, by omega⟩
        · simp only [tf_upo, tf_upo', tf_up_eq, ne_eq, Nat.reduceEqDiff, not_false_eq_true, reduceCtorEq]
          exact v7
      · -- a leaf that is new
        rw [tf_upo' (by decide)] at q2
        have hl : mh hd rt sh (rt t) = -1 := by unfold mh; rw [p2, if_pos q]
        have hfirst : ∀ s, 0 ≤ s → s < t → rt s ≠ rt t := by
          rcases v4 _ p1 p2 hl with ⟨z1, z2⟩ | z
          · exact z2
          · rw [q2] at z; have := z.1.1; omega
        have e15 : tf_up G1 25 t (rt t) 15 = G1 15 := tf_upo (by decide)
        refine tf_ri (sp_44 (by rw [e15]; omega)) ?_
        rw [e15]
        rintro r G2 ⟨rfl, rfl⟩
        refine ⟨b1, by omega, ih _ _ (by omega) (by omega) (((((((hf.up (by omega) (by omega)).up (by omega) (by omega)).up (by omega) (by omega)).up (by omega) (by omega)).up (by omega) (by omega)).up (by omega) (by omega)).up (by omega) (by omega)) ?_ ?_ ⟨?_, ?_, ?_, ?_, ?_, ?_, ?_⟩⟩
        · simp only [tf_upo, tf_upo', tf_up_eq, ne_eq, Nat.reduceEqDiff, not_false_eq_true, reduceCtorEq]
          rw [if_neg (by decide)]
          exact g1
        · simp only [tf_upo, tf_upo', tf_up_eq, ne_eq, Nat.reduceEqDiff, not_false_eq_true, reduceCtorEq]
          exact g2
        · simp only [tf_upo, tf_upo', tf_up_eq, ne_eq, Nat.reduceEqDiff, not_false_eq_true, reduceCtorEq]
          rw [if_pos trivial]
          omega
        · simp only [tf_upo, tf_upo', tf_up_eq, ne_eq, Nat.reduceEqDiff, not_false_eq_true, reduceCtorEq]
          exact n2
        · simp only [tf_upo, tf_upo', tf_up_eq, ne_eq, Nat.reduceEqDiff, not_false_eq_true, reduceCtorEq]
          rw [if_pos trivial]
          intro x hxx
          by_cases e : x = G1 15 0
          · rw [if_pos e, if_pos e, if_pos e]
            exact ⟨rfl, rfl, rfl, rt t, p1, p2, by rw [if_pos rfl, e]⟩
          · rw [if_neg e, if_neg e, if_neg e]
            obtain ⟨a1, a2, a3, r, a4, a5, a6⟩ := v3 x ⟨hxx.1, by have := hxx.2; omega⟩
            refine ⟨a1, a2, a3, r, a4, a5, ?_⟩
            have : r ≠ rt t := fun z => by rw [z, q2] at a6; have := hxx.1; omega
            rw [if_neg this]; exact a6
        · simp only [tf_upo, tf_upo', tf_up_eq, ne_eq, Nat.reduceEqDiff, not_false_eq_true, reduceCtorEq]
          rw [if_pos trivial]
          intro r hr er hlr
          by_cases e : r = rt t
          · rw [if_pos e, if_pos rfl]
            exact Or.inr ⟨⟨v1.1, by omega⟩, dt, e.symm, fun s s0 s1 => by rw [e]; exact hfirst s s0 s1⟩
          · rw [if_neg e]
            rcases v4 r hr er hlr with ⟨z1, z2⟩ | ⟨z1, z2⟩
            · refine Or.inl ⟨z1, fun s s0 s1 => ?_⟩
              by_cases e2 : s = t
              · rw [e2]; exact fun z => e z.symm
              · exact z2 s s0 (by omega)
            · have z3 := z1.2
              rw [if_neg (by omega)]
              exact Or.inr ⟨⟨z1.1, by omega⟩, z2⟩
        · simp only [tf_upo, tf_upo', tf_up_eq, ne_eq, Nat.reduceEqDiff, not_false_eq_true, reduceCtorEq]
          intro r hr er hlr
          have e : r ≠ rt t := fun z => by rw [z] at hlr; exact hlr hl
          rw [if_neg e]
          refine ⟨(v5 r hr er hlr).1, fun z => (v5 r hr er hlr).2 ?_⟩
          have : r ≠ t := fun e => by rw [e] at hlr er; rw [er] at hl; exact hlr hl
          omega
        · simp only [tf_upo, tf_upo', tf_up_eq, ne_eq, Nat.reduceEqDiff, not_false_eq_true, reduceCtorEq]
          intro j hj
          obtain ⟨a1, a2, a3, a4⟩ := v6 j hj
          exact ⟨a1, a2, a3, by omega⟩
        · simp only [tf_upo, tf_upo', tf_up_eq, ne_eq, Nat.reduceEqDiff, not_false_eq_true, reduceCtorEq]
          exact v7
      · -- no leaf, and not the root
        have hl : mh hd rt sh t ≠ -1 := by
          unfold mh
          rw [if_neg q]
          rcases p3 with z | z
          · exact absurd z.1 q
          · have := z.2.2; omega
        refine ih _ _ (by omega) (by omega) (hf.up (by omega) (by omega)) ?_ ?_ ⟨?_, ?_, ?_, ?_, ?_, ?_, ?_⟩
        · simp only [tf_upo, tf_upo', tf_up_eq, ne_eq, Nat.reduceEqDiff, not_false_eq_true, reduceCtorEq]
          exact g1
        · simp only [tf_upo, tf_upo', tf_up_eq, ne_eq, Nat.reduceEqDiff, not_false_eq_true, reduceCtorEq]
          exact g2
        · simp only [tf_upo, tf_upo', tf_up_eq, ne_eq, Nat.reduceEqDiff, not_false_eq_true, reduceCtorEq]
          omega
        · simp only [tf_upo, tf_upo', tf_up_eq, ne_eq, Nat.reduceEqDiff, not_false_eq_true, reduceCtorEq]
          exact n2
        · simp only [tf_upo, tf_upo', tf_up_eq, ne_eq, Nat.reduceEqDiff, not_false_eq_true, reduceCtorEq]
          exact v3
        · simp only [tf_upo, tf_upo', tf_up_eq, ne_eq, Nat.reduceEqDiff, not_false_eq_true, reduceCtorEq]
          intro r hr er hlr
          rcases v4 r hr er hlr with ⟨z1, z2⟩ | z
          · refine Or.inl ⟨z1, fun s s0 s1 => ?_⟩
            by_cases e : s = t
            · rw [e]; intro z; rw [z] at em; rw [hlr] at em; exact hl em.symm
            · exact z2 s s0 (by omega)
          · exact Or.inr z
        · simp only [tf_upo, tf_upo', tf_up_eq, ne_eq, Nat.reduceEqDiff, not_false_eq_true, reduceCtorEq]
          intro r hr er hlr
          refine ⟨(v5 r hr er hlr).1, fun z => (v5 r hr er hlr).2 ?_⟩
          have : r ≠ t := fun e => by rw [e] at er; exact q2 er
          omega
        · simp only [tf_upo, tf_upo', tf_up_eq, ne_eq, Nat.reduceEqDiff, not_false_eq_true, reduceCtorEq]
          intro j hj
          obtain ⟨a1, a2, a3, a4⟩ := v6 j hj
          exact ⟨a1, a2, a3, by omega⟩
        · simp only [tf_upo, tf_upo', tf_up_eq, ne_eq, Nat.reduceEqDiff, not_false_eq_true, reduceCtorEq]
          exact v7
      · simp only [tf_upo, tf_upo', tf_up_eq, ne_eq, Nat.reduceEqDiff, not_false_eq_true, reduceCtorEq]
        omega
      · simp only [tf_upo, tf_upo', tf_up_eq, ne_eq, Nat.reduceEqDiff, not_false_eq_true, reduceCtorEq]
        omega
      · -- a root more that is open
        have hl : mh hd rt sh t ≠ -1 := by
          unfold mh
          rw [if_neg q]
          rcases p3 with z | z
          · exact absurd z.1 q
          · have := z.2.2; omega
        have e24 : tf_up G1 25 t (rt t) 24 = G1 24 := tf_upo (by decide)
        rw [e24, q2]
        have n2' : ∀ s, 0 ≤ s → s < t + 1 → (if s = t then t else G1 25 s) = rt s := by rw [q2] at n2; exact n2
        refine ih _ _ (by omega) (by omega) (((hf.up (by omega) (by omega)).up (by omega) (by omega)).up (by omega) (by omega)) ?_ ?_ ⟨?_, ?_, ?_, ?_, ?_, ?_, ?_⟩
        · simp only [tf_upo, tf_upo', tf_up_eq, ne_eq, Nat.reduceEqDiff, not_false_eq_true, reduceCtorEq]
          exact g1
        · simp only [tf_upo, tf_upo', tf_up_eq, ne_eq, Nat.reduceEqDiff, not_false_eq_true, reduceCtorEq]
          exact g2
        · simp only [tf_upo, tf_upo', tf_up_eq, ne_eq, Nat.reduceEqDiff, not_false_eq_true, reduceCtorEq]
          rw [if_pos trivial]
          omega
        · simp only [tf_upo, tf_upo', tf_up_eq, ne_eq, Nat.reduceEqDiff, not_false_eq_true, reduceCtorEq]
          exact n2'
        · simp only [tf_upo, tf_upo', tf_up_eq, ne_eq, Nat.reduceEqDiff, not_false_eq_true, reduceCtorEq]
          exact v3
        · simp only [tf_upo, tf_upo', tf_up_eq, ne_eq, Nat.reduceEqDiff, not_false_eq_true, reduceCtorEq]
          intro r hr er hlr
          rcases v4 r hr er hlr with ⟨z1, z2⟩ | z
          · refine Or.inl ⟨z1, fun s s0 s1 => ?_⟩
            by_cases e : s = t
            · rw [e, q2]; intro z; rw [← z] at hlr; exact hl hlr
            · exact z2 s s0 (by omega)
          · exact Or.inr z
        · simp only [tf_upo, tf_upo', tf_up_eq, ne_eq, Nat.reduceEqDiff, not_false_eq_true, reduceCtorEq]
          rw [if_pos trivial]
          intro r hr er hlr
          refine ⟨(v5 r hr er hlr).1, fun z => ?_⟩
          by_cases e : r = t
          · exact ⟨G1 24 7, ⟨v1.2.1, by omega⟩, by rw [if_pos rfl, e]⟩
          · obtain ⟨j, j0, j1⟩ := (v5 r hr er hlr).2 (by omega)
            have j2 := j0.2
            exact ⟨j, ⟨j0.1, by omega⟩, by rw [if_neg (by omega)]; exact j1⟩
        · simp only [tf_upo, tf_upo', tf_up_eq, ne_eq, Nat.reduceEqDiff, not_false_eq_true, reduceCtorEq]
          rw [if_pos trivial]
          intro j hj
          by_cases e : j = G1 24 7
          · rw [if_pos e]
            exact ⟨dt, q2, hl, by omega⟩
          · rw [if_neg e]
            obtain ⟨a1, a2, a3, a4⟩ := v6 j ⟨hj.1, by have := hj.2; omega⟩
            exact ⟨a1, a2, a3, by omega⟩
        · simp only [tf_upo, tf_upo', tf_up_eq, ne_eq, Nat.reduceEqDiff, not_false_eq_true, reduceCtorEq]
          rw [if_pos trivial]
          intro i j hi' hj'
          by_cases e1 : i = G1 24 7 <;> by_cases e2 : j = G1 24 7
          · intro _; rw [e1, e2]
          · rw [if_pos e1, if_neg e2]
            intro z
            have := (v6 j ⟨hj'.1, by have := hj'.2; omega⟩).2.2.2
            omega
          · rw [if_neg e1, if_pos e2]
            intro z
            have := (v6 i ⟨hi'.1, by have := hi'.2; omega⟩).2.2.2
            omega
          · rw [if_neg e1, if_neg e2]
            exact v7 i j ⟨hi'.1, by have := hi'.2; omega⟩ ⟨hj'.1, by have := hj'.2; omega⟩
  have hf0 : xfr2 G (tf_up G0 24 7 0) := by
    refine xfr2.up ⟨fun k hk => f1 k (by omega), ?_⟩ (by omega) (by omega)
    rw [f1 24 (by decide)]
  have e15 : tf_up G0 24 7 0 15 = G 15 := by rw [tf_upo (by decide)]; exact f1 15 (by decide)
  refine key n.toNat _ 0 (by omega) (by have := hx.2.1.1; omega) hf0 (by rw [e15]) ?_ ⟨?_, fun s s0 s1 => by omega, ?_, ?_, ?_, ?_, ?_⟩
  · rw [tf_upo (by decide)]; exact f1 21 (by decide)
  · rw [e15, hc, tf_up_at]; omega
  · rw [e15, hc]; intro x hxx; have := hxx.1; have := hxx.2; omega
  · intro r hr er hl
    rw [tf_upo (by decide)]
    exact Or.inl ⟨f2 r (hx.b hr).1 (hx.b hr).2, fun s s0 s1 => by omega⟩
  · intro r hr er hl
    rw [tf_upo (by decide)]
    exact ⟨f2 r (hx.b hr).1 (hx.b hr).2, fun z => by have := hr.1; omega⟩
  · rw [tf_up_at]; intro j hj; have := hj.1; have := hj.2; omega
  · rw [tf_up_at]; intro i j hi; have := hi.1; have := hi.2; omega
end
