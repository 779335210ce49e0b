-- SPEC N: the class: finite trees
section
variable {l : Launch} {G : tf_Sto} {n : Int} {hd : Int → Int} {ch : Int → Int → Int} {rt sh : Int → Int}
def xen (n : Int) (hd : Int → Int) (rt sh : Int → Int) (G : tf_Sto) (j : Int) : Prop := mf_dom n (G 27 j) ∧ rt (G 27 j) = G 27 j ∧ mh hd rt sh (G 27 j) ≠ -1 ∧ G 26 (G 27 j) = -1
def xop (n : Int) (hd : Int → Int) (rt sh : Int → Int) (G : tf_Sto) : Prop := 0 ≤ G 24 7 ∧ G 15 0 + G 24 7 ≤ n ∧ (∀ j, mf_dom (G 24 7) j → xen n hd rt sh G j) ∧ (∀ i j, mf_dom (G 24 7) i → mf_dom (G 24 7) j → G 27 i = G 27 j → i = j) ∧ ∀ r, mf_dom n r → rt r = r → G 26 r = -1 → ∃ j, mf_dom (G 24 7) j ∧ G 27 j = r
def xst (hd : Int → Int) (ch : Int → Int → Int) (rt sh : Int → Int) (G : tf_Sto) (j : Int) : Prop := ∃ k, 0 ≤ k ∧ k < mf_w (mh hd rt sh (G 27 j)) ∧ G 26 (rt (mc ch rt sh (G 27 j) k)) = -1
set_option maxHeartbeats 4000000 in
theorem sp_56 (hx : xs n hd ch rt sh G) (hi : xfi n hd ch rt sh G) (ho : xop n hd rt sh G) : tf_RUN l 56 [tf_r 24] G (tf_PI fun r G' => xfr2 G G' ∧ xfi n hd ch rt sh G' ∧ xop n hd rt sh G' ∧
    ((r = 1 ∧ G' 24 7 < G 24 7) ∨ (r = 0 ∧ ∀ j, mf_dom (G' 24 7) j → xst hd ch rt sh G' j))) := by
  obtain ⟨o1, o2, o3, o4, o5⟩ := ho
  have hoc : G 24 7 ≤ 300 := by have := hi.1; have := hx.2.1.2; omega
  refine vc_56 ?_
  have key : ∀ (d : Nat) (G1 : tf_Sto) (kept at_ : Int), at_ + d = G 24 7 → 0 ≤ kept → kept ≤ at_ → xfr2 G G1 → xfi n hd ch rt sh G1 → G1 24 7 = G 24 7 → G1 15 0 + kept + (G 24 7 - at_) ≤ n →
      (∀ j, (0 ≤ j ∧ j < kept) ∨ (at_ ≤ j ∧ j < G 24 7) → xen n hd rt sh G1 j) → (∀ i j, (0 ≤ i ∧ i < kept) ∨ (at_ ≤ i ∧ i < G 24 7) → (0 ≤ j ∧ j < kept) ∨ (at_ ≤ j ∧ j < G 24 7) → G1 27 i = G1 27 j → i = j) →
      (∀ r, mf_dom n r → rt r = r → G1 26 r = -1 → ∃ j, ((0 ≤ j ∧ j < kept) ∨ (at_ ≤ j ∧ j < G 24 7)) ∧ G1 27 j = r) → (kept = at_ → ∀ j, 0 ≤ j → j < kept → xst hd ch rt sh G1 j) →
      tf_AW l 56 none (tf_PI fun r G' => xfr2 G G' ∧ xfi n hd ch rt sh G' ∧ xop n hd rt sh G' ∧ ((r = 1 ∧ G' 24 7 < G 24 7) ∨ (r = 0 ∧ ∀ j, mf_dom (G' 24 7) j → xst hd ch rt sh G' j))) 4 [(0, tf_r 24), (1, tf_i kept), (2, tf_i at_)] [] (none, false) G1 := by
    intro d
    induction d with
    | zero =>
      intro G1 kept at_ e k0 k1 hf h1 h2 h3 h4 h5 h6 h7
      have e26 : tf_up G1 24 7 kept 26 = G1 26 := tf_upo (by decide)
      have e27 : tf_up G1 24 7 kept 27 = G1 27 := tf_upo (by decide)
      have e15 : tf_up G1 24 7 kept 15 = G1 15 := tf_upo (by decide)
      have hfi : xfi n hd ch rt sh (tf_up G1 24 7 kept) := by
        unfold xfi xtab xmx xid xun xrs
        simp only [tf_upo, tf_upo', tf_up_eq, ne_eq, Nat.reduceEqDiff, not_false_eq_true, reduceCtorEq]
        exact h1
      have hop : xop n hd rt sh (tf_up G1 24 7 kept) := by
        unfold xop xen
        rw [e26, e27, e15, tf_up_at]
        refine ⟨k0, by omega, fun j hj => h4 j (Or.inl hj), fun i j hi hj => h5 i j (Or.inl hi) (Or.inl hj), fun r a b c => ?_⟩
        obtain ⟨j, j1, j2⟩ := h6 r a b c
        refine ⟨j, ?_, j2⟩
        rcases j1 with j1 | j1
        · exact j1
        · omega
      refine vc_56_4 ⟨fun _ => ⟨fun q => ⟨by decide, tf_pi ⟨hf.up (by omega) (by omega), hfi, hop, Or.inr ⟨rfl, ?_⟩⟩⟩, fun q => ⟨by decide, tf_pi ⟨hf.up (by omega) (by omega), hfi, hop, Or.inl ⟨rfl, ?_⟩⟩⟩⟩, fun z => by omega⟩
      · rw [tf_up_at]
        intro j hj
        unfold xst
        rw [e26, e27]
        exact h7 (by omega) j hj.1 hj.2
      · rw [tf_up_at]; omega
    | succ d ih =>
      intro G1 kept at_ e k0 k1 hf h1 h2 h3 h4 h5 h6 h7
      have hx1 := hx.f2 hf
      have h300 := hx.2.1.2
      have c0 := h1.1
      obtain ⟨a1, a2, a3, a4⟩ := h4 at_ (Or.inr ⟨Int.le_refl _, by omega⟩)
      have b1 := hx1.b a1
      refine vc_56_4 ⟨fun z => by omega, fun _ => ⟨by omega, tf_ri (sp_59 hx1 h1.2.2.2.2.2.2 a1 a2 a3) ?_⟩⟩
      rintro r G2 ⟨rfl, hr⟩
      refine ⟨fun q => ⟨by omega, by omega, by omega, ?_⟩, fun q => ?_⟩
      · -- it stays open
        obtain ⟨k, y0, y1, y2⟩ : ∃ k, 0 ≤ k ∧ k < mf_w (mh hd rt sh (G2 27 at_)) ∧ G2 26 (rt (mc ch rt sh (G2 27 at_) k)) = -1 := by
          rcases hr with ⟨z, -⟩ | ⟨-, z⟩
          · omega
          · exact z
        have e26 : tf_up G2 27 kept (G2 27 at_) 26 = G2 26 := tf_upo (by decide)
        have e15 : tf_up G2 27 kept (G2 27 at_) 15 = G2 15 := tf_upo (by decide)
        have e27 : ∀ j, tf_up G2 27 kept (G2 27 at_) 27 j = if j = kept then G2 27 at_ else G2 27 j := fun j => tf_up_eq
        -- which entry it was
        have hsrc : ∀ j, (0 ≤ j ∧ j < kept + 1) ∨ (at_ + 1 ≤ j ∧ j < G 24 7) → ∃ j', ((0 ≤ j' ∧ j' < kept) ∨ (at_ ≤ j' ∧ j' < G 24 7)) ∧ tf_up G2 27 kept (G2 27 at_) 27 j = G2 27 j' ∧ ((j = kept ∧ j' = at_) ∨ (j ≠ kept ∧ j' = j)) := by
          intro j hj
          by_cases e1 : j = kept
          · exact ⟨at_, Or.inr ⟨Int.le_refl _, by omega⟩, by rw [e27, if_pos e1], Or.inl ⟨e1, rfl⟩⟩
          · refine ⟨j, ?_, by rw [e27, if_neg e1], Or.inr ⟨e1, rfl⟩⟩
            rcases hj with hj | hj
            · exact Or.inl ⟨hj.1, by omega⟩
            · exact Or.inr ⟨by omega, hj.2⟩
        refine ih _ _ _ (by omega) (by omega) (by omega) (hf.up (by omega) (by omega)) ?_ ?_ ?_ ?_ ?_ ?_ ?_
        · unfold xfi xtab xmx xid xun xrs
          simp only [tf_upo, tf_upo', tf_up_eq, ne_eq, Nat.reduceEqDiff, not_false_eq_true, reduceCtorEq]
          exact h1
        · rw [tf_upo' (by decide)]; exact h2
        · rw [e15]; omega
        · intro j hj
          obtain ⟨j', q1, q2, -⟩ := hsrc j hj
          unfold xen
          rw [q2, e26]
          exact h4 j' q1
        · intro i j hi hj z
          obtain ⟨i', q1, q2, q3⟩ := hsrc i hi
          obtain ⟨j', p1, p2, p3⟩ := hsrc j hj
          rw [q2, p2] at z
          have := h5 i' j' q1 p1 z
          omega
        · rw [e26]
          intro r hr1 hr2 hr3
          obtain ⟨j, j1, j2⟩ := h6 r hr1 hr2 hr3
          by_cases e1 : j = at_
          · exact ⟨kept, Or.inl ⟨k0, by omega⟩, by rw [e27, if_pos rfl, ← e1]; exact j2⟩
          · refine ⟨j, ?_, ?_⟩
            · rcases j1 with j1 | j1
              · exact Or.inl ⟨j1.1, by omega⟩
              · exact Or.inr ⟨by omega, j1.2⟩
            · rw [e27, if_neg]
              · exact j2
              · rcases j1 with j1 | j1 <;> omega
        · intro ek j j0 j1
          have ek' : kept = at_ := by omega
          unfold xst
          rw [e26, e27]
          by_cases e1 : j = kept
          · rw [if_pos e1]; exact ⟨k, y0, y1, y2⟩
          · rw [if_neg e1]; exact h7 ek' j j0 (by omega)
      · -- it is found
        have hkn0 : ∀ k, 0 ≤ k → k < mf_w (mh hd rt sh (G2 27 at_)) → G2 26 (rt (mc ch rt sh (G2 27 at_) k)) ≠ -1 := by
          rcases hr with ⟨-, z⟩ | ⟨z, -⟩
          · exact z
          · omega
        have hkn : ∀ k, 0 ≤ k → k < mf_w (mh hd rt sh (G2 27 at_)) → mf_dom (G2 15 0) (G2 26 (rt (mc ch rt sh (G2 27 at_) k))) := by
          intro k y0 y1
          have dm := (mc_dom hx1.par hx1.2.2.1 a1 y0 y1).1
          obtain ⟨p1, p2, -⟩ := hx1.par _ dm
          rcases h1.2.2.2.2.1 _ p1 p2 with z | z
          · exact absurd z.1 (hkn0 k y0 y1)
          · exact z.1
        refine tf_ri (sp_60 hx1 h1.2.2.2.2.2.2 a1 a2 a3 h1.2.1 ⟨c0, by omega⟩ (fun k y0 y1 => ?_)) ?_
        · have := hkn k y0 y1
          have := this.1; have := (hkn k y0 y1).2
          omega
        intro v G3 hv
        obtain ⟨v1, v2, v3, v4, v5, v6, v7, v8, v9⟩ := xfi_res hx1 h1 a1 a2 a3 a4 hkn hv
        have hsp := sp_46 (l := l) (G := G3) (x := v) ⟨v1.1, by omega⟩ (by rw [v2, (hx1.root a1 a2 a3).2.2.2.2.1]; exact (hx1.root a1 a2 a3).2.2.1) (fun k y0 y1 => by
          rw [v2] at y1
          rw [v3 k y0 y1, v4, v5]
          have q1 := hkn k y0 y1
          obtain ⟨q2, q3, -⟩ := h1.2.2.1 _ q1
          have q4 := q1.1; have q5 := q1.2
          exact ⟨⟨q4, by omega⟩, by omega, by omega⟩)
        refine tf_rv hsp ?_
        rw [v2, v4, v5]
        rintro G4 rfl
        refine ⟨b1, by omega, ?_⟩
        generalize hG5 : tf_up (tf_up (tf_up G3 18 v (mf_szs (G2 18) (fun k => G3 20 (v * 3 + k)) (mf_w (mh hd rt sh (G2 27 at_))))) 19 v (mf_dps (G2 19) (fun k => G3 20 (v * 3 + k)) (mf_w (mh hd rt sh (G2 27 at_))))) 26 (G2 27 at_) v = G5 at *
        have u26 : ∀ x, G5 26 x = if x = G2 27 at_ then v else G2 26 x := by
          intro x
          rw [← hG5]
          simp only [tf_upo, tf_upo', tf_up_eq, ne_eq, Nat.reduceEqDiff, not_false_eq_true, reduceCtorEq]
          rw [v6 26 (by decide)]
        have u27 : G5 27 = G2 27 := by
          rw [← hG5]
          simp only [tf_upo, tf_upo', tf_up_eq, ne_eq, Nat.reduceEqDiff, not_false_eq_true, reduceCtorEq]
          exact v6 27 (by decide)
        have u24 : G5 24 = G2 24 := by
          rw [← hG5]
          simp only [tf_upo, tf_upo', tf_up_eq, ne_eq, Nat.reduceEqDiff, not_false_eq_true, reduceCtorEq]
          exact v6 24 (by decide)
        have u15 : G5 15 = G3 15 := by
          rw [← hG5]
          simp only [tf_upo, tf_upo', tf_up_eq, ne_eq, Nat.reduceEqDiff, not_false_eq_true, reduceCtorEq]
        have uo : xfr2 G2 G5 := by
          refine ⟨fun k hk => ?_, by rw [u24]⟩
          rw [← hG5, tf_upo (by omega), tf_upo (by omega), tf_upo (by omega)]
          exact v6 k (by omega)
        clear hG5
        have c5 : G5 15 0 ≤ G2 15 0 + 1 := by rw [u15]; omega
        refine ih _ _ _ (by omega) k0 (by omega) (hf.trans uo) v9 ?_ (by omega) ?_ ?_ ?_ (fun z => by omega)
        · rw [u24]; exact h2
        · intro j hj
          have hj' : (0 ≤ j ∧ j < kept) ∨ (at_ ≤ j ∧ j < G 24 7) := by omega
          obtain ⟨q1, q2, q3, q4⟩ := h4 j hj'
          unfold xen
          rw [u27, u26, if_neg]
          · exact ⟨q1, q2, q3, q4⟩
          · intro z
            have := h5 j at_ hj' (Or.inr ⟨Int.le_refl _, by omega⟩) z
            omega
        · rw [u27]
          intro i j hi hj
          exact h5 i j (by omega) (by omega)
        · rw [u27]
          intro r hr1 hr2 hr3
          rw [u26] at hr3
          by_cases e1 : r = G2 27 at_
          · rw [if_pos e1] at hr3; omega
          · rw [if_neg e1] at hr3
            obtain ⟨j, j1, j2⟩ := h6 r hr1 hr2 hr3
            have : j ≠ at_ := fun z => by rw [z] at j2; exact e1 j2.symm
            exact ⟨j, by omega, j2⟩
  refine key (G 24 7).toNat G 0 0 (by omega) (by omega) (by omega) xfr2.refl hi rfl (by omega) ?_ ?_ ?_ (fun _ j j0 j1 => by omega)
  · intro j hj
    exact o3 j ⟨by omega, by omega⟩
  · intro i j hi hj
    exact o4 i j ⟨by omega, by omega⟩ ⟨by omega, by omega⟩
  · intro r a b c
    obtain ⟨j, j1, j2⟩ := o5 r a b c
    exact ⟨j, Or.inr j1, j2⟩
set_option maxHeartbeats 1000000 in
theorem sp_55 (hx : xs n hd ch rt sh G) (hi : xfi n hd ch rt sh G) (ho : xop n hd rt sh G) : tf_RUN l 55 [tf_r 24] G (tf_PV fun G' => xfr2 G G' ∧ xfi n hd ch rt sh G' ∧ xop n hd rt sh G' ∧ G' 15 1 = G' 15 0 ∧ ∀ j, mf_dom (G' 24 7) j → xst hd ch rt sh G' j) := by
  refine vc_55 ?_
  have fin : ∀ G1 : tf_Sto, xfr2 G G1 → xfi n hd ch rt sh G1 → xop n hd rt sh G1 → (∀ j, mf_dom (G1 24 7) j → xst hd ch rt sh G1 j) → tf_RUN l 47 [tf_r 15] G1 (fun o G2 => o = .inl none ∧ (tf_PV fun G' => xfr2 G G' ∧ xfi n hd ch rt sh G' ∧ xop n hd rt sh G' ∧ G' 15 1 = G' 15 0 ∧ ∀ j, mf_dom (G' 24 7) j → xst hd ch rt sh G' j) (.inl none) G2) := by
    intro G1 h1 h2 h3 h4
    refine tf_rv sp_47 ?_
    rintro _ rfl
    have e0 : tf_up G1 15 1 (G1 15 0) 15 0 = G1 15 0 := by rw [tf_up_eq, if_neg (by decide)]
    refine tf_pv ⟨h1.up (by omega) (by omega), ?_, ?_, ?_, ?_⟩
    · unfold xfi
      rw [e0]
      unfold xtab xmx xid xun xrs
      simp only [tf_upo, tf_upo', tf_up_eq, ne_eq, Nat.reduceEqDiff, not_false_eq_true, reduceCtorEq]
      exact h2
    · unfold xop xen
      rw [e0]
      simp only [tf_upo, tf_upo', tf_up_eq, ne_eq, Nat.reduceEqDiff, not_false_eq_true, reduceCtorEq]
      exact h3
    · rw [e0, tf_up_at]
    · unfold xst
      simp only [tf_upo, tf_upo', tf_up_eq, ne_eq, Nat.reduceEqDiff, not_false_eq_true, reduceCtorEq]
      exact h4
  have key : ∀ (d : Nat) (G1 : tf_Sto) (more sweep : Int), 0 ≤ sweep → sweep + d = 301 → xfr2 G G1 → xfi n hd ch rt sh G1 → xop n hd rt sh G1 → ((more = 1 ∧ sweep + G1 24 7 ≤ 300) ∨ (more = 0 ∧ ∀ j, mf_dom (G1 24 7) j → xst hd ch rt sh G1 j)) →
      tf_AW l 55 none (tf_PV fun G' => xfr2 G G' ∧ xfi n hd ch rt sh G' ∧ xop n hd rt sh G' ∧ G' 15 1 = G' 15 0 ∧ ∀ j, mf_dom (G' 24 7) j → xst hd ch rt sh G' j) 4 [(0, tf_r 24), (1, tf_i more), (2, tf_i sweep)] [] (none, false) G1 := by
    intro d
    induction d with
    | zero =>
      intro G1 more sweep s0 s1 hf h1 h2 h3
      have h3' : ∀ j, mf_dom (G1 24 7) j → xst hd ch rt sh G1 j := by
        rcases h3 with ⟨-, z⟩ | ⟨-, z⟩
        · have := h2.1; omega
        · exact z
      exact vc_55_4 ⟨fun _ => fin G1 hf h1 h2 h3', fun z => by omega⟩
    | succ d ih =>
      intro G1 more sweep s0 s1 hf h1 h2 h3
      refine vc_55_4 ⟨fun z => by omega, fun _ => ⟨fun q => fin G1 hf h1 h2 ?_, fun q => tf_ri (sp_56 (hx.f2 hf) h1 h2) ?_⟩⟩
      · rcases h3 with ⟨z, -⟩ | ⟨-, z⟩
        · omega
        · exact z
      · rintro r G2 ⟨g1, g2, g3, g4⟩
        refine ⟨by omega, ih _ _ _ (by omega) (by omega) (hf.trans g1) g2 g3 ?_⟩
        rcases g4 with ⟨rfl, z⟩ | ⟨rfl, z⟩
        · left
          rcases h3 with ⟨-, y⟩ | ⟨y, -⟩
          · exact ⟨rfl, by omega⟩
          · omega
        · exact Or.inr ⟨rfl, z⟩
  refine key 301 G 1 0 (by omega) (by omega) xfr2.refl hi ho (Or.inl ⟨rfl, ?_⟩)
  have := ho.2.1; have := hi.1; have := hx.2.1.2
  omega
end
