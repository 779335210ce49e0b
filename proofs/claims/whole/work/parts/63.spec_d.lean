-- SPEC D: unify
theorem xo_congr {n : Int} {hd : Int → Int} {i : Int} {p p' w s rt dp : Int → Int} (h : xo n hd i p w s rt dp) (e : ∀ t, mf_dom n t → p' t = p t) : xo n hd i p' w s rt dp := by
  refine ⟨fun t ht => ?_, h.2⟩
  have h1 := h.1 t ht
  rw [e t ht, e _ h1.2.1]
  exact h1
section
variable {l : Launch} {G : tf_Sto} {n g : Int} {hd mr : Int → Int} {P W S RT DP : Int → Int → Int}
theorem xu_at {G' : tf_Sto} (hu : xu n g mr P W S G) {a b : Int} (ha : mf_dom n a) (hb : mf_dom n b) (hx : xat a b G G') :
    (∀ t, mf_dom n t → G' 5 t = (if t = a then b else P g t) ∧ G' 6 t = (if t = b then W g b + W g a else W g t) ∧ G' 7 t = (if t = b then (if S g b = -1 then S g a else S g b) else S g t)) ∧
    xu n (g + 1) (xmr mr g a) (xx P g (G' 5)) (xx W g (G' 6)) (xx S g (G' 7)) G' := by
  obtain ⟨u1, u2, u3⟩ := hu
  obtain ⟨x1, x2, x3, x4, x5, x6, x7⟩ := hx
  refine ⟨fun t ht => ?_, ?_, fun t ht => ?_, fun i h0 h1 => ?_⟩
  · rw [x3, x4, x5, (u2 t ht).1, (u2 t ht).2.1, (u2 t ht).2.2, (u2 a ha).2.1, (u2 a ha).2.2, (u2 b hb).2.1, (u2 b hb).2.2]
    exact ⟨rfl, rfl, rfl⟩
  · rw [x1, u1]
  · rw [xx_new, xx_new, xx_new]
    exact ⟨rfl, rfl, rfl⟩
  · rw [x6, u1]
    unfold xmr
    by_cases q : i = g
    · rw [if_pos q, if_pos q]
    · rw [if_neg q, if_neg q]
      exact u3 i h0 (by omega)
def xm (n g : Int) (mr : Int → Int) (P W S : Int → Int → Int) (one other : Int) (G G' : tf_Sto) : Prop := ∃ a b, ((a = one ∧ b = other) ∨ (a = other ∧ b = one)) ∧
  (∀ t, mf_dom n t → G' 5 t = (if t = a then b else P g t) ∧ G' 6 t = (if t = b then W g b + W g a else W g t) ∧ G' 7 t = (if t = b then (if S g b = -1 then S g a else S g b) else S g t)) ∧
  xu n (g + 1) (xmr mr g a) (xx P g (G' 5)) (xx W g (G' 6)) (xx S g (G' 7)) G'
set_option maxHeartbeats 1000000 in
theorem sp_33 (H : xh n hd g mr P W S RT DP) (hg : 0 ≤ g) (hn : 0 ≤ n ∧ n ≤ 300) (hhd : ∀ t, mf_dom n t → hd t = -1 ∨ 0 ≤ hd t) (hu : xu n g mr P W S G) (he : ∀ t, mf_dom n t → G 2 t = hd t) {a b : Int} (ha : mf_dom n a) (hb : mf_dom n b) (ra : RT g a = a) (rb : RT g b = b) (hw : 0 ≤ G 4 8 ∧ (a ≠ b → G 4 8 ≤ 898)) :
    tf_RUN l 33 [tf_r 4, tf_i a, tf_i b] G (tf_PI fun r G' => (a = b ∧ r = 1 ∧ G' = G) ∨ (a ≠ b ∧ S g a ≠ -1 ∧ S g b ≠ -1 ∧ hd (S g a) ≠ hd (S g b) ∧ r = 0 ∧ G' = G) ∨
      (a ≠ b ∧ (S g a = -1 ∨ S g b = -1 ∨ hd (S g a) = hd (S g b)) ∧ r = 1 ∧ xfr G G' ∧ xm n g mr P W S a b G G' ∧
        ((S g a ≠ -1 ∧ S g b ≠ -1 ∧ xw G G' (mf_w (hd (S g a))) (fun k => G 3 (S g a * 3 + k)) (fun k => G 3 (S g b * 3 + k))) ∨ ((S g a = -1 ∨ S g b = -1) ∧ xw G G' 0 (fun _ => 0) (fun _ => 0))))) := by
  have ho := xh_at H hn.1 hhd (i := g) hg (Int.le_refl g)
  have ba : 0 ≤ a ∧ a < 300 := ⟨ha.1, by have := ha.2; omega⟩
  have bb : 0 ≤ b ∧ b < 300 := ⟨hb.1, by have := hb.2; omega⟩
  have sa : G 7 a = S g a := (hu.2.1 a ha).2.2
  have sb : G 7 b = S g b := (hu.2.1 b hb).2.2
  have wa : G 6 a = W g a := (hu.2.1 a ha).2.1
  have wb : G 6 b = W g b := (hu.2.1 b hb).2.1
  have w1 := (ho.1 a ha).2.2.2.2.2.2.2.2.2.1
  have w2 := (ho.1 a ha).2.2.2.2.2.2.2.2.2.2.1
  have w3 := (ho.1 b hb).2.2.2.2.2.2.2.2.2.1
  have w4 := (ho.1 b hb).2.2.2.2.2.2.2.2.2.2.1
  have hgg : G 4 0 = g := hu.1
  have pa : S g a ≠ -1 → mf_dom n (S g a) ∧ 0 ≤ hd (S g a) := by
    intro z
    have := (ho.2.1 a ha).2.2
    rw [ra] at this
    rcases this with q | q
    · exact absurd q.1 z
    · exact ⟨q.1, q.2.2⟩
  have pb : S g b ≠ -1 → mf_dom n (S g b) ∧ 0 ≤ hd (S g b) := by
    intro z
    have := (ho.2.1 b hb).2.2
    rw [rb] at this
    rcases this with q | q
    · exact absurd q.1 z
    · exact ⟨q.1, q.2.2⟩
  -- the last step, wherever one comes to it
  have fin : ∀ (G1 : tf_Sto), a ≠ b → (S g a = -1 ∨ S g b = -1 ∨ hd (S g a) = hd (S g b)) → xfr G G1 → (∀ k : Nat, 5 ≤ k ∧ k ≤ 8 → G1 k = G k) → (∀ j, j ≠ 8 → G1 4 j = G 4 j) →
      ((S g a ≠ -1 ∧ S g b ≠ -1 ∧ xw G G1 (mf_w (hd (S g a))) (fun k => G 3 (S g a * 3 + k)) (fun k => G 3 (S g b * 3 + k))) ∨ ((S g a = -1 ∨ S g b = -1) ∧ xw G G1 0 (fun _ => 0) (fun _ => 0))) →
      ∀ (c d : Int), ((c = a ∧ d = b) ∨ (c = b ∧ d = a)) → tf_RUN l 35 [tf_r 4, tf_i c, tf_i d] G1 (tf_PV fun G' => xfr G G' ∧ xm n g mr P W S a b G G' ∧ ((S g a ≠ -1 ∧ S g b ≠ -1 ∧ xw G G' (mf_w (hd (S g a))) (fun k => G 3 (S g a * 3 + k)) (fun k => G 3 (S g b * 3 + k))) ∨ ((S g a = -1 ∨ S g b = -1) ∧ xw G G' 0 (fun _ => 0) (fun _ => 0)))) := by
    intro G1 hne hs f1 f2 f3 f4 c d hcd
    have h2 := xo_two ho ha hb hne ra rb
    have f5 := f2 5 (by decide)
    have f6 := f2 6 (by decide)
    have f7 := f2 7 (by decide)
    have f8 := f2 8 (by decide)
    have hu1 : xu n g mr P W S G1 := by
      refine ⟨(f3 0 (by decide)).trans hgg, fun t ht => ?_, fun i h0 h1 => ?_⟩
      · rw [f5, f6, f7]; exact hu.2.1 t ht
      · rw [f8]; exact hu.2.2 i h0 h1
    have hc : mf_dom n c ∧ mf_dom n d ∧ (0 ≤ c ∧ c < 300) ∧ (0 ≤ d ∧ d < 300) ∧ G1 6 d + G1 6 c = W g a + W g b := by
      rw [f6]
      rcases hcd with ⟨rfl, rfl⟩ | ⟨rfl, rfl⟩
      · exact ⟨ha, hb, ba, bb, by rw [wa, wb]; omega⟩
      · exact ⟨hb, ha, bb, ba, by rw [wa, wb]⟩
    obtain ⟨c1, c2, c3, c4, c5⟩ := hc
    refine (sp_35 c3 c4 (by rw [f3 0 (by decide), hgg]; omega) (by rw [c5]; omega)).mono ?_
    rintro o G' ⟨rfl, hx⟩
    obtain ⟨k1, k2⟩ := xu_at hu1 c1 c2 hx
    have hx9 : G' 9 = G1 9 := hx.2.2.2.2.2.2 9 (by decide)
    have hx10 : G' 10 = G1 10 := hx.2.2.2.2.2.2 10 (by decide)
    have hx4 : G' 4 8 = G1 4 8 := hx.2.1 8 (by decide)
    have hxw : ∀ {m : Int} {f f' : Int → Int}, xw G G1 m f f' → xw G G' m f f' := by
      intro m f f' q
      unfold xw
      rw [hx9, hx10, hx4]
      exact q
    refine ⟨rfl, fun k hk => (hx.2.2.2.2.2.2 k (by omega)).trans (f1 k hk), ⟨c, d, hcd, k1, k2⟩, ?_⟩
    rcases f4 with ⟨q1, q2, q3⟩ | ⟨q1, q3⟩
    · exact Or.inl ⟨q1, q2, hxw q3⟩
    · exact Or.inr ⟨q1, hxw q3⟩
  have w0 : xw G G 0 (fun _ => 0) (fun _ => 0) := ⟨by omega, fun j _ => ⟨rfl, rfl⟩, fun k h0 h1 => by omega⟩
  refine vc_33 ⟨fun hne => ⟨ba, bb, ?_⟩, fun e => ⟨by decide, tf_pi (Or.inl ⟨e, rfl, rfl⟩)⟩⟩
  rw [sa, sb]
  refine ⟨fun q => ⟨ba, bb, fun _ => ?_, fun _ => ?_⟩, fun q => ⟨fun q' => ⟨ba, bb, fun _ => ?_, fun _ => ?_⟩, fun q' => ?_⟩⟩
  · refine tf_rv (fin G hne (Or.inl q) xfr.refl (fun _ _ => rfl) (fun _ _ => rfl) (Or.inr ⟨Or.inl q, w0⟩) _ _ (Or.inr ⟨rfl, rfl⟩)) ?_
    intro G' h
    exact ⟨by decide, tf_pi (Or.inr (Or.inr ⟨hne, Or.inl q, rfl, h⟩))⟩
  · refine tf_rv (fin G hne (Or.inl q) xfr.refl (fun _ _ => rfl) (fun _ _ => rfl) (Or.inr ⟨Or.inl q, w0⟩) _ _ (Or.inl ⟨rfl, rfl⟩)) ?_
    intro G' h
    exact ⟨by decide, tf_pi (Or.inr (Or.inr ⟨hne, Or.inl q, rfl, h⟩))⟩
  · refine tf_rv (fin G hne (Or.inr (Or.inl q')) xfr.refl (fun _ _ => rfl) (fun _ _ => rfl) (Or.inr ⟨Or.inr q', w0⟩) _ _ (Or.inr ⟨rfl, rfl⟩)) ?_
    intro G' h
    exact ⟨by decide, tf_pi (Or.inr (Or.inr ⟨hne, Or.inr (Or.inl q'), rfl, h⟩))⟩
  · refine tf_rv (fin G hne (Or.inr (Or.inl q')) xfr.refl (fun _ _ => rfl) (fun _ _ => rfl) (Or.inr ⟨Or.inr q', w0⟩) _ _ (Or.inl ⟨rfl, rfl⟩)) ?_
    intro G' h
    exact ⟨by decide, tf_pi (Or.inr (Or.inr ⟨hne, Or.inr (Or.inl q'), rfl, h⟩))⟩
  · obtain ⟨da, ha0⟩ := pa q
    obtain ⟨db, hb0⟩ := pb q'
    have bsa : 0 ≤ S g a ∧ S g a < 300 := ⟨da.1, by have := da.2; omega⟩
    have bsb : 0 ≤ S g b ∧ S g b < 300 := ⟨db.1, by have := db.2; omega⟩
    rw [he _ da, he _ db]
    refine ⟨bsa, bsb, fun z => ?_, fun z => ⟨by decide, tf_pi (Or.inr (Or.inl ⟨hne, q, q', z, rfl, rfl⟩))⟩⟩
    refine tf_rv (sp_34 bsa bsb (by rw [he _ da]; exact Or.inr ha0) ⟨hw.1, hw.2 hne⟩) ?_
    rintro G1 ⟨x1, x2, x3⟩
    rw [he _ da] at x1
    have g1 : xfr G G1 := fun k hk => x2 k (by omega) (by omega) (by omega)
    have g2 : ∀ k : Nat, 5 ≤ k ∧ k ≤ 8 → G1 k = G k := fun k hk => x2 k (by omega) (by omega) (by omega)
    refine ⟨ba, bb, fun _ => ?_, fun _ => ?_⟩
    · refine tf_rv (fin G1 hne (Or.inr (Or.inr z)) g1 g2 x3 (Or.inl ⟨q, q', x1⟩) _ _ (Or.inr ⟨rfl, rfl⟩)) ?_
      intro G' h
      exact ⟨by decide, tf_pi (Or.inr (Or.inr ⟨hne, Or.inr (Or.inr z), rfl, h⟩))⟩
    · refine tf_rv (fin G1 hne (Or.inr (Or.inr z)) g1 g2 x3 (Or.inl ⟨q, q', x1⟩) _ _ (Or.inl ⟨rfl, rfl⟩)) ?_
      intro G' h
      exact ⟨by decide, tf_pi (Or.inr (Or.inr ⟨hne, Or.inr (Or.inr z), rfl, h⟩))⟩
end
