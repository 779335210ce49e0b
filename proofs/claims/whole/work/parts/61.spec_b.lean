-- SPEC B: merging and going back
def xfr (G G' : tf_Sto) : Prop := ∀ k : Nat, (k < 4 ∨ 10 < k) → G' k = G k
def xu (n g : Int) (mr : Int → Int) (P W S : Int → Int → Int) (G : tf_Sto) : Prop :=
  G 4 0 = g ∧ (∀ t, mf_dom n t → G 5 t = P g t ∧ G 6 t = W g t ∧ G 7 t = S g t) ∧ ∀ i, 0 ≤ i → i < g → G 8 i = mr i
theorem xfr.refl {G : tf_Sto} : xfr G G := fun _ _ => rfl
theorem xfr.trans {G G' G'' : tf_Sto} (h : xfr G G') (h' : xfr G' G'') : xfr G G'' := fun k hk => (h' k hk).trans (h k hk)
theorem xfr.up {G G' : tf_Sto} (h : xfr G G') {k : Nat} {i v : Int} (hk : 4 ≤ k ∧ k ≤ 10) : xfr G (tf_up G' k i v) := fun k' hk' => by
  rw [← h k' hk']
  exact tf_upo (by omega)
theorem xo_len {n : Int} {hd : Int → Int} {i : Int} {p w s rt dp : Int → Int} (h : xo n hd i p w s rt dp) : i ≤ n := by
  have h1 := h.2.2
  have h2 := (mf_cnt_in (fun t => rt t = t) n.toNat).1
  omega
/-- two roots are two classes: there is room for one merge more -/
theorem xo_two {n : Int} {hd : Int → Int} {i : Int} {p w s rt dp : Int → Int} (h : xo n hd i p w s rt dp) {a b : Int} (ha : mf_dom n a) (hb : mf_dom n b) (hne : a ≠ b) (ra : rt a = a) (rb : rt b = b) : i + 2 ≤ n := by
  have h1 := h.2.2
  have e1 := mf_cnt_one (n := n.toNat) (a := a) ha.1 (mf_dom_nat ha)
  have e2 := mf_cnt_one (n := n.toNat) (a := b) hb.1 (mf_dom_nat hb)
  have e3 := mf_cnt_or (P := fun t => t = a) (Q := fun t => t = b) (n := n.toNat) (fun t _ _ q => hne (q.1.symm.trans q.2))
  have e4 := mf_cnt_le (P := fun t => t = a ∨ t = b) (Q := fun t => rt t = t) (n := n.toNat) (fun t _ _ q => by
    rcases q with q | q
    · rw [q]; exact ra
    · rw [q]; exact rb)
  omega
section
variable {l : Launch} {G : tf_Sto} {n g : Int} {hd mr : Int → Int} {P W S RT DP : Int → Int → Int}
theorem xh_at (H : xh n hd g mr P W S RT DP) (hn : 0 ≤ n) (hhd : ∀ t, mf_dom n t → hd t = -1 ∨ 0 ≤ hd t) {i : Int} (h0 : 0 ≤ i) (h1 : i ≤ g) : xo n hd i (P i) (W i) (S i) (RT i) (DP i) := by
  have := xh_all H hn hhd i.toNat (by omega)
  have e : (i.toNat : Int) = i := by omega
  rwa [e] at this
set_option maxHeartbeats 1000000 in
theorem sp_31 (H : xh n hd g mr P W S RT DP) (hn : 0 ≤ n ∧ n ≤ 300) (hhd : ∀ t, mf_dom n t → hd t = -1 ∨ 0 ≤ hd t) (hu : xu n g mr P W S G) {v : Int} (hv : 0 ≤ v ∧ v ≤ g) :
    tf_RUN l 31 [tf_r 4, tf_i v] G (tf_PV fun G' => xu n v mr P W S G' ∧ xfr G G') := by
  have hgn := xo_len (xh_at H hn.1 hhd (i := g) (by omega) (by omega))
  obtain ⟨u1, u2, u3⟩ := hu
  refine vc_31 ⟨by omega, ?_⟩
  rw [u1]
  have key : ∀ (k : Nat) (G1 : tf_Sto) (at_ : Int), at_ + 1 = v + k → at_ < g → (∀ t, mf_dom n t → G1 5 t = P (at_ + 1) t ∧ G1 6 t = W (at_ + 1) t ∧ G1 7 t = S (at_ + 1) t) → (∀ i, 0 ≤ i → i < g → G1 8 i = mr i) → xfr G G1 →
      tf_AW l 31 none (tf_PV fun G' => xu n v mr P W S G' ∧ xfr G G') 7 [(0, tf_r 4), (1, tf_i v), (2, tf_i at_)] [] (none, false) G1 := by
    intro k
    induction k with
    | zero =>
      intro G1 at_ e hat a1 a2 a3
      have e : at_ + 1 = v := by omega
      rw [e] at a1
      refine vc_31_7 ⟨fun _ => tf_pv ⟨⟨tf_up_at, fun t ht => ?_, fun i h0 h1 => ?_⟩, a3.up (by omega)⟩, fun z => by omega⟩
      · simp only [tf_upo, tf_upo', tf_up_eq, ne_eq, Nat.reduceEqDiff, not_false_eq_true, reduceCtorEq]
        exact a1 t ht
      · simp only [tf_upo, tf_upo', tf_up_eq, ne_eq, Nat.reduceEqDiff, not_false_eq_true, reduceCtorEq]
        exact a2 i h0 (by omega)
    | succ k ih =>
      intro G1 at_ e hat a1 a2 a3
      obtain ⟨b, d1, d2, d3, d4, d5, d6, d7⟩ := H.2 at_ (by omega) (by omega)
      have ho := xh_at H hn.1 hhd (i := at_) (by omega) (by omega)
      have ho1 := xh_at H hn.1 hhd (i := at_ + 1) (by omega) (by omega)
      have m1 : G1 8 at_ = mr at_ := a2 at_ (by omega) (by omega)
      have m2 : G1 5 (mr at_) = b := by rw [(a1 _ d1).1, d6]
      have ba : 0 ≤ mr at_ ∧ mr at_ < 300 := ⟨d1.1, by have := d1.2; omega⟩
      have bb : 0 ≤ b ∧ b < 300 := ⟨d2.1, by have := d2.2; omega⟩
      have ea := d7 _ d1
      have eb := d7 _ d2
      rw [if_pos rfl, if_neg d3, if_neg d3] at ea
      rw [if_neg (Ne.symm d3), if_pos rfl, if_pos rfl] at eb
      have wa := (ho.1 _ d1).2.2.2.2.2.2.2.2.2
      have wb := (ho.1 _ d2).2.2.2.2.2.2.2.2.2
      have w1 := wa.1; have w2 := wa.2.1; have w3 := wb.1; have w4 := wb.2.1
      have e1 : G1 6 b = W at_ b + W at_ (mr at_) := by rw [(a1 _ d2).2.1, eb.2.1]
      have e2 : G1 6 (mr at_) = W at_ (mr at_) := by rw [(a1 _ d1).2.1, ea.2.1]
      have e3 : G1 7 b = if S at_ b = -1 then S at_ (mr at_) else S at_ b := by rw [(a1 _ d2).2.2, eb.2.2.1]
      have e4 : G1 7 (mr at_) = S at_ (mr at_) := by rw [(a1 _ d1).2.2, ea.2.2.1]
      clear ea eb
      -- the shapes of two classes are two
      have hsh : S at_ b ≠ -1 → S at_ b ≠ S at_ (mr at_) := by
        intro z1 z2
        have p1 := (ho.2.1 _ d2).2.2
        have p2 := (ho.2.1 _ d1).2.2
        rw [d5] at p1
        rw [d4] at p2
        rcases p1 with p1 | p1
        · exact z1 p1.1
        · rcases p2 with p2 | p2
          · rw [p2.1] at z2; exact z1 z2
          · have q1 := p1.2.1
            have q2 := p2.2.1
            rw [z2, q2] at q1
            exact d3 q1
      have a5 : ∀ t, mf_dom n t → (if t = mr at_ then mr at_ else G1 5 t) = P at_ t := by
        intro t ht
        by_cases q : t = mr at_
        · rw [if_pos q, q]
          have := (ho.1 _ d1).2.2.2.1
          rw [d4] at this
          exact this.symm
        · rw [if_neg q, (a1 t ht).1, (d7 t ht).1, if_neg q]
      have a6 : ∀ t, mf_dom n t → (if t = b then G1 6 b - G1 6 (mr at_) else G1 6 t) = W at_ t := by
        intro t ht
        by_cases q : t = b
        · rw [if_pos q, q, e1, e2]; omega
        · rw [if_neg q, (a1 t ht).2.1, (d7 t ht).2.1, if_neg q]
      have e0 : at_ + -1 + 1 = at_ := by omega
      refine vc_31_7 ⟨fun z => by omega, fun _ => ?_⟩
      rw [m1, m2]
      refine ⟨by omega, ba, ba, bb, ba, ?_, bb, bb, ba, fun z => ⟨by omega, ?_⟩, fun z => ⟨bb, by omega, ?_⟩⟩
      · rw [e1, e2]; omega
      · refine ih _ _ (by omega) (by omega) ?_ ?_ ((a3.up (by omega)).up (by omega))
        · intro t ht
          rw [e0]; simp only [tf_upo, tf_upo', tf_up_eq, ne_eq, Nat.reduceEqDiff, not_false_eq_true, reduceCtorEq]
          refine ⟨a5 t ht, a6 t ht, ?_⟩
          rw [(a1 t ht).2.2, (d7 t ht).2.2.1]
          by_cases q : t = b
          · rw [if_pos q]
            have z : G1 7 b ≠ G1 7 (mr at_) := z
            rw [e3, e4] at z
            by_cases q2 : S at_ b = -1
            · rw [if_pos q2] at z; exact absurd rfl z
            · rw [if_neg q2, q]
          · rw [if_neg q]
        · intro i h0 h1
          simp only [tf_upo, tf_upo', tf_up_eq, ne_eq, Nat.reduceEqDiff, not_false_eq_true, reduceCtorEq]
          exact a2 i h0 h1
      · refine ih _ _ (by omega) (by omega) ?_ ?_ (((a3.up (by omega)).up (by omega)).up (by omega))
        · intro t ht
          rw [e0]; simp only [tf_upo, tf_upo', tf_up_eq, ne_eq, Nat.reduceEqDiff, not_false_eq_true, reduceCtorEq]
          refine ⟨a5 t ht, a6 t ht, ?_⟩
          have z : G1 7 b = G1 7 (mr at_) := z
          rw [e3, e4] at z
          by_cases q : t = b
          · rw [if_pos q, q]
            by_cases q2 : S at_ b = -1
            · exact q2.symm
            · rw [if_neg q2] at z; exact absurd z (hsh q2)
          · rw [if_neg q, (a1 t ht).2.2, (d7 t ht).2.2.1, if_neg q]
        · intro i h0 h1
          simp only [tf_upo, tf_upo', tf_up_eq, ne_eq, Nat.reduceEqDiff, not_false_eq_true, reduceCtorEq]
          exact a2 i h0 h1
  refine key (g - v).toNat G (g - 1) (by omega) (by omega) ?_ u3 xfr.refl
  have e : g - 1 + 1 = g := by omega
  rw [e]
  exact u2
end
