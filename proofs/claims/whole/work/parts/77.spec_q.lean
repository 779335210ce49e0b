-- SPEC Q: the class: the tree of a term
def xfr3 (G G' : tf_Sto) : Prop := ∀ k : Nat, (k < 15 ∨ 28 < k) → G' k = G k
theorem xfr3.trans {G G' G'' : tf_Sto} (h : xfr3 G G') (h' : xfr3 G' G'') : xfr3 G G'' := fun k hk => (h' k hk).trans (h k hk)
section
variable {l : Launch} {G : tf_Sto} {n : Int} {hd : Int → Int} {ch : Int → Int → Int} {rt sh : Int → Int}
theorem xs.f3 {G' : tf_Sto} (hx : xs n hd ch rt sh G) (h : xfr3 G G') : xs n hd ch rt sh G' := hx.fr (fun k hk => h k (by omega))
theorem xlv_fi (hx : xs n hd ch rt sh G) (hv : xlv n hd rt sh n G) (h21 : ∀ b, 0 ≤ b → b < 512 → G 21 b = -1) : xfi n hd ch rt sh G ∧ xop n hd rt sh G := by
  obtain ⟨v1, v2, v3, v4, v5, v6, v7⟩ := hv
  have hleaf : ∀ r, mf_dom n r → rt r = r → mh hd rt sh r = -1 → mf_dom (G 15 0) (G 26 r) ∧ xls n rt r (G 17 (G 26 r)) := by
    intro r hr er hl
    rcases v4 r hr er hl with ⟨-, z⟩ | z
    · exact absurd er (z r hr.1 hr.2)
    · exact z
  refine ⟨⟨v1.1, ⟨fun x hxx hne => absurd (v3 x hxx).1 hne, fun b b0 b1 => Or.inl ⟨h21 b b0 b1, fun y y0 y1 hne => absurd (v3 y ⟨y0, y1⟩).1 hne⟩⟩, fun x hxx => ?_, fun x y hxx _ hne => absurd (v3 x hxx).1 hne, fun r hr er => ?_, fun x hxx => (v3 x hxx).2.2.2, fun t ht => v2 t ht.1 ht.2⟩, v1.2.1, v1.2.2, fun j hj => ?_, v7, fun r hr er hu => ?_⟩
  · obtain ⟨a1, a2, a3, -⟩ := v3 x hxx
    have := hxx.1
    refine ⟨by rw [a2]; omega, by rw [a3]; omega, Or.inl ⟨a1, a2, a3⟩⟩
  · by_cases hl : mh hd rt sh r = -1
    · right
      obtain ⟨d1, d2⟩ := hleaf r hr er hl
      refine ⟨d1, by rw [(v3 _ d1).1, hl], fun _ => d2, fun k k0 k1 => ?_⟩
      unfold mf_w at k1
      rw [if_pos hl] at k1
      omega
    · exact Or.inl ⟨(v5 r hr er hl).1, hl⟩
  · obtain ⟨a1, a2, a3, a4⟩ := v6 j hj
    exact ⟨a1, a2, a3, (v5 _ a1 a2 a3).1⟩
  · have hl : mh hd rt sh r ≠ -1 := by
      intro z
      have := (hleaf r hr er z).1
      rw [hu] at this
      have := this.1
      omega
    exact (v5 r hr er hl).2 hr.2
theorem sp_53 (hx : xs n hd ch rt sh G) (hf : G 24 8 ≠ 0 → xFV n hd ch rt sh G) : tf_RUN l 53 [tf_r 24] G (tf_PV fun G' => xfr3 G G' ∧ G' 24 8 ≠ 0 ∧ xFV n hd ch rt sh G') := by
  refine vc_53 ⟨fun q => tf_rv sp_41 ?_, fun q => tf_pv ⟨fun _ _ => rfl, q, hf q⟩⟩
  rintro G1 ⟨a1, a2, a3, a4⟩
  have hx1 : xs n hd ch rt sh G1 := hx.fr (fun k hk => a3 k (by omega) (by omega))
  refine tf_rv (sp_54 hx1 a1) ?_
  rintro G2 ⟨b1, b2, b3, b4⟩
  have hx2 := hx1.f2 b1
  obtain ⟨c1, c2⟩ := xlv_fi hx2 b4 (fun b b0 b1' => by rw [b3]; exact a4 b b0 b1')
  refine tf_rv (sp_55 hx2 c1 c2) ?_
  rintro G3 ⟨d1, d2, d3, d4, d5⟩
  refine tf_rv (sp_57 ⟨hx2.f2 d1, d2, d3, d4, d5⟩) ?_
  rintro G4 ⟨e1, e2⟩
  refine ⟨by decide, tf_pv ⟨fun k hk => ?_, by rw [tf_up_at]; decide, ?_⟩⟩
  · rw [tf_upo (by omega), e1.1 k hk, d1.1 k hk, b1.1 k hk, a3 k (by omega) (by omega)]
  · unfold xFV xrs xid
    simp only [tf_upo, tf_upo', tf_up_eq, ne_eq, Nat.reduceEqDiff, not_false_eq_true, reduceCtorEq]
    exact e2
theorem sp_51 (hx : xs n hd ch rt sh G) (hf : G 24 8 ≠ 0 → xFV n hd ch rt sh G) {t : Int} (ht : mf_dom n t) : tf_RUN l 51 [tf_r 24, tf_i t] G (tf_PI fun r G' => r = G' 26 (rt t) ∧ xfr3 G G' ∧ G' 24 8 ≠ 0 ∧ xFV n hd ch rt sh G') := by
  refine vc_51 (tf_rv (sp_53 hx hf) ?_)
  rintro G1 ⟨a1, a2, a3⟩
  have e := a3.2.1 t ht
  refine ⟨hx.b ht, ?_, tf_pi ⟨by rw [e], a1, a2, a3⟩⟩
  rw [e]
  exact hx.b (hx.par t ht).1
theorem sp_52 (hx : xs n hd ch rt sh G) (hf : G 24 8 ≠ 0 → xFV n hd ch rt sh G) : tf_RUN l 52 [tf_r 24] G (tf_PI fun r G' => r = G' 15 0 ∧ xfr3 G G' ∧ G' 24 8 ≠ 0 ∧ xFV n hd ch rt sh G') := by
  refine vc_52 (tf_rv (sp_53 hx hf) ?_)
  rintro G1 ⟨a1, a2, a3⟩
  exact tf_pi ⟨rfl, a1, a2, a3⟩
/-- once the trees are found, asking changes nothing -/
theorem sp_53' (q : G 24 8 ≠ 0) : tf_RUN l 53 [tf_r 24] G (tf_PV fun G' => G' = G) := vc_53 ⟨fun z => absurd z q, fun _ => tf_pv rfl⟩
theorem sp_51' (hx : xs n hd ch rt sh G) (q : G 24 8 ≠ 0) (hv : xFV n hd ch rt sh G) {t : Int} (ht : mf_dom n t) : tf_RUN l 51 [tf_r 24, tf_i t] G (tf_PI fun r G' => r = G 26 (rt t) ∧ G' = G) := by
  refine vc_51 (tf_rv (sp_53' q) ?_)
  rintro G1 rfl
  have e := hv.2.1 t ht
  refine ⟨hx.b ht, ?_, tf_pi ⟨by rw [e], rfl⟩⟩
  rw [e]
  exact hx.b (hx.par t ht).1
theorem xFV.sol {E : List (Int × Int)} (hx : xs n hd ch rt sh G) (hr : mf_rep n hd ch E rt sh) (hcon : mf_con n hd ch E) (hv : xFV n hd ch rt sh G) : mf_sol n hd ch (mf_T n hd ch E) (G 15 0) (fun t => G 26 (rt t)) := by
  obtain ⟨v1, v2, v3, v4, v5, v6, v7⟩ := hv
  have hT : ∀ s t, mf_dom n s → mf_dom n t → rt s = rt t → G 26 (rt s) = G 26 (rt t) := fun s t _ _ e => by rw [e]
  refine ⟨⟨fun t ht => ?_, fun x hxx => ?_⟩, mf_bis_of hr hcon hx.2.2.1 hT ?_, fun s t hs ht e => hT s t hs ht ((hr.2 s t hs ht).mpr e), fun B hB s t hs ht hb => v5 B (mf_bis_ck hr hB) s t hs ht hb⟩
  · obtain ⟨p1, p2, -⟩ := hx.par t ht
    exact (v3 _ p1 p2).1
  · obtain ⟨r, r1, r2, r3⟩ := v4 x hxx
    exact ⟨r, r1, by show G 26 (rt r) = x; rw [r2]; exact r3⟩
  · intro s t hs ht e
    have e : G 26 (rt s) = G 26 (rt t) := e
    obtain ⟨p1, p2, -⟩ := hx.par s hs
    obtain ⟨q1, q2, -⟩ := hx.par t ht
    obtain ⟨a1, a2, a3, a4⟩ := v3 _ p1 p2
    obtain ⟨b1, b2, b3, b4⟩ := v3 _ q1 q2
    rw [mh_rt hx.par hs] at a2 a3 a4
    rw [mh_rt hx.par ht] at b2 b3 b4
    have em : mh hd rt sh s = mh hd rt sh t := by rw [← a2, ← b2, e]
    refine ⟨em, fun z => ?_, fun k k0 k1 => ?_⟩
    · have u1 := (a3 z).2.1
      have u2 := (b3 (em ▸ z)).2.1
      rw [e] at u1
      exact u1.symm.trans u2
    · have u1 := a4 k k0 k1
      have u2 := b4 k k0 (by rw [← em]; exact k1)
      rw [mc_rt hx.par hs] at u1
      rw [mc_rt hx.par ht] at u2
      show G 26 (rt (mc ch rt sh s k)) = G 26 (rt (mc ch rt sh t k))
      rw [← u1, ← u2, e]
end
