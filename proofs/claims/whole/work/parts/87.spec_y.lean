-- SPEC Y: the class: matching
def tmax (c : Int) (h : Int → Int) (b : Int → Int → Int) : Prop := ∀ B : Int → Int → Prop, (∀ x y, mf_dom c x → mf_dom c y → B x y → h x = h y ∧ (h x = -1 → x = y) ∧ ∀ k, 0 ≤ k → k < mf_w (h x) → B (b x k) (b y k)) → ∀ x y, mf_dom c x → mf_dom c y → B x y → x = y
theorem tvalid_fun {c : Int} {h : Int → Int} {b : Int → Int → Int} {x y : Int} (hm : tmax c h b) {C : Int → Int → Prop} (hC : tvalid c h b x y C) {a d e : Int} (h1 : C a d) (h2 : C a e) : d = e := by
  obtain ⟨c1, c2, c3, c4⟩ := hC
  refine hm (fun u v => u = v ∨ ∃ a, C a u ∧ C a v) (fun u v hu hv q => ?_) d e (c2 a d h1).2 (c2 a e h2).2 (Or.inr ⟨a, h1, h2⟩)
  rcases q with e0 | ⟨a, p, q⟩
  · subst e0
    exact ⟨rfl, fun _ => rfl, fun k k0 k1 => Or.inl rfl⟩
  · by_cases hl : h a = -1
    · have e0 := c4 a u v p q hl
      subst e0
      exact ⟨rfl, fun _ => rfl, fun k k0 k1 => Or.inl rfl⟩
    · obtain ⟨p1, p2⟩ := c3 a u p hl
      obtain ⟨q1, q2⟩ := c3 a v q hl
      exact ⟨p1.symm.trans q1, fun z => absurd (p1.trans z) hl, fun k k0 k1 => Or.inr ⟨b a k, p2 k k0 (by rw [p1]; exact k1), q2 k k0 (by rw [p1]; exact k1)⟩⟩
section
variable {l : Launch} {G : tf_Sto} {n c : Int} {hd : Int → Int} {ch : Int → Int → Int} {rt sh : Int → Int}
theorem xFV.tmax (hx : xs n hd ch rt sh G) (hv : xFV n hd ch rt sh G) : tmax (G 15 0) (G 16) (xB G) := by
  obtain ⟨v1, v2, v3, v4, v5, v6, v7⟩ := hv
  intro B hB x y dx dy hb
  obtain ⟨r, r1, r2, rfl⟩ := v4 x dx
  obtain ⟨q, q1, q2, rfl⟩ := v4 y dy
  have key := v5 (fun s t => B (G 26 (rt s)) (G 26 (rt t))) (fun s t hs ht e => ?_) r q r1 q1 (by show B (G 26 (rt r)) (G 26 (rt q)); rw [r2, q2]; exact hb)
  · rw [r2, q2] at key; exact key
  · obtain ⟨p1, p2, -⟩ := hx.par s hs
    obtain ⟨o1, o2, -⟩ := hx.par t ht
    obtain ⟨a1, a2, a3, a4⟩ := v3 _ p1 p2
    obtain ⟨b1, b2, b3, b4⟩ := v3 _ o1 o2
    rw [mh_rt hx.par hs] at a2 a3 a4
    rw [mh_rt hx.par ht] at b2 b3 b4
    obtain ⟨e1, e2, e3⟩ := hB _ _ a1 b1 e
    rw [a2] at e1 e2 e3
    rw [b2] at e1
    refine ⟨e1, fun z => ?_, fun k k0 k1 => ?_⟩
    · have u1 := (a3 z).2.1
      have u2 := (b3 (by rw [← e1]; exact z)).2.1
      rw [e2 z] at u1
      exact u1.symm.trans u2
    · have u1 := a4 k k0 k1
      have u2 := b4 k k0 (by rw [← e1]; exact k1)
      rw [mc_rt hx.par hs] at u1
      rw [mc_rt hx.par ht] at u2
      have u3 := e3 k k0 k1
      unfold xB at u3
      rw [u1, u2] at u3
      exact u3
def xMI (c : Int) (h : Int → Int) (b : Int → Int → Int) (x y : Int) (G G1 : tf_Sto) : Prop := (∀ k : Nat, k ≠ 32 → k ≠ 33 → k ≠ 34 → G1 k = G k) ∧ G1 32 3 = mf_cnt (fun a => G1 33 a ≠ -1) c.toNat ∧ (∀ j, mf_dom (G1 32 3) j → mf_dom c (G1 34 j) ∧ G1 33 (G1 34 j) ≠ -1) ∧
  (∀ a, mf_dom c a → G1 33 a ≠ -1 → ∃ j, mf_dom (G1 32 3) j ∧ G1 34 j = a) ∧ ∀ a, mf_dom c a → G1 33 a ≠ -1 → mf_dom c (G1 33 a) ∧ ∀ C, tvalid c h b x y C → C a (G1 33 a)
/-- what was paired stays -/
def xMm (G1 G2 : tf_Sto) : Prop := (∀ a, G1 33 a ≠ -1 → G2 33 a = G1 33 a) ∧ G1 32 3 ≤ G2 32 3 ∧ ∀ j, mf_dom (G1 32 3) j → G2 34 j = G1 34 j
theorem xMm.refl {G1 : tf_Sto} : xMm G1 G1 := ⟨fun _ _ => rfl, Int.le_refl _, fun _ _ => rfl⟩
theorem xMm.trans {G1 G2 G3 : tf_Sto} (h : xMm G1 G2) (h' : xMm G2 G3) : xMm G1 G3 :=
  ⟨fun a q => (h'.1 a (by rw [h.1 a q]; exact q)).trans (h.1 a q), Int.le_trans h.2.1 h'.2.1, fun j hj => (h'.2.2 j ⟨hj.1, by have := hj.2; have := h.2.1; omega⟩).trans (h.2.2 j hj)⟩
set_option maxHeartbeats 1000000 in
theorem sp_67 {h : Int → Int} {b : Int → Int → Int} {x y : Int} {G1 : tf_Sto} (hc : 0 ≤ c ∧ c ≤ 300) (hi : xMI c h b x y G G1) {t o : Int} (ht : mf_dom c t) (ho : mf_dom c o) (hs : ∀ C, tvalid c h b x y C → C t o) :
    tf_RUN l 67 [tf_r 32, tf_i t, tf_i o] G1 (tf_PI fun r G2 => xMI c h b x y G G2 ∧ xMm G1 G2 ∧ ((r = 1 ∧ G2 33 t = o) ∨ (r = 0 ∧ G1 33 t ≠ -1 ∧ G1 33 t ≠ o))) := by
  have bt : 0 ≤ t ∧ t < 300 := ⟨ht.1, by have := ht.2; omega⟩
  obtain ⟨i1, i2, i3, i4, i5⟩ := id hi
  have o0 := ho.1
  refine vc_67 ⟨bt, fun q => ⟨bt, fun q2 => ⟨by decide, tf_pi ⟨hi, xMm.refl, Or.inr ⟨rfl, q, q2⟩⟩⟩, fun q2 => ⟨by decide, tf_pi ⟨hi, xMm.refl, Or.inl ⟨rfl, q2⟩⟩⟩⟩, fun q => ?_⟩
  have u33 : ∀ a, tf_up (tf_up (tf_up G1 33 t o) 34 (G1 32 3) t) 32 3 (G1 32 3 + 1) 33 a = if a = t then o else G1 33 a := fun a => by
    rw [tf_upo (by decide), tf_upo (by decide), tf_up_eq]
  have u34 : ∀ j, tf_up (tf_up (tf_up G1 33 t o) 34 (G1 32 3) t) 32 3 (G1 32 3 + 1) 34 j = if j = G1 32 3 then t else G1 34 j := fun j => by
    rw [tf_upo (by decide), tf_up_eq, tf_upo' (by decide)]
  have u32 : tf_up (tf_up (tf_up G1 33 t o) 34 (G1 32 3) t) 32 3 (G1 32 3 + 1) 32 3 = G1 32 3 + 1 := tf_up_at
  have uo : ∀ k : Nat, k ≠ 32 → k ≠ 33 → k ≠ 34 → tf_up (tf_up (tf_up G1 33 t o) 34 (G1 32 3) t) 32 3 (G1 32 3 + 1) k = G1 k := fun k a b c => by rw [tf_upo a, tf_upo c, tf_upo b]
  generalize tf_up (tf_up (tf_up G1 33 t o) 34 (G1 32 3) t) 32 3 (G1 32 3 + 1) = G2 at *
  have hadd : mf_cnt (fun a => G2 33 a ≠ -1) c.toNat = mf_cnt (fun a => G1 33 a ≠ -1) c.toNat + 1 := by
    refine mf_cnt_add (P := fun a => G1 33 a ≠ -1) (a := t) ht.1 (mf_dom_nat ht) (fun z => z q) (fun a a0 a1 => ?_)
    rw [u33]
    by_cases e : a = t
    · rw [if_pos e]; exact ⟨fun _ => Or.inr e, fun _ => by omega⟩
    · rw [if_neg e]; exact ⟨fun z => Or.inl z, fun z => z.resolve_right e⟩
  have hle := (mf_cnt_in (fun a => G2 33 a ≠ -1) c.toNat).2
  have hge := (mf_cnt_in (fun a => G1 33 a ≠ -1) c.toNat).1
  have fin : xMI c h b x y G G2 ∧ xMm G1 G2 ∧ G2 33 t = o := by
    refine ⟨⟨fun k p r s => (uo k p r s).trans (i1 k p r s), by rw [u32, hadd, i2], fun j hj => ?_, fun a ha hn => ?_, fun a ha hn => ?_⟩, ⟨fun a hn => ?_, by omega, fun j hj => ?_⟩, by rw [u33, if_pos rfl]⟩
    · rw [u32] at hj
      rw [u34]
      by_cases e : j = G1 32 3
      · rw [if_pos e, u33, if_pos rfl]; exact ⟨ht, by omega⟩
      · rw [if_neg e, u33]
        obtain ⟨w1, w2⟩ := i3 j ⟨hj.1, by have := hj.2; omega⟩
        refine ⟨w1, ?_⟩
        split
        · omega
        · exact w2
    · rw [u32]
      by_cases e : a = t
      · exact ⟨G1 32 3, ⟨by omega, by omega⟩, by rw [u34, if_pos rfl, e]⟩
      · rw [u33, if_neg e] at hn
        obtain ⟨j, j1, j2⟩ := i4 a ha hn
        have j3 := j1.2
        exact ⟨j, ⟨j1.1, by omega⟩, by rw [u34, if_neg (by omega)]; exact j2⟩
    · rw [u33] at hn ⊢
      by_cases e : a = t
      · rw [if_pos e, e]; exact ⟨ho, hs⟩
      · rw [if_neg e] at hn ⊢; exact i5 a ha hn
    · rw [u33, if_neg]
      intro e
      rw [e] at hn
      exact hn q
    · rw [u34, if_neg]
      have := hj.2
      omega
  refine ⟨bt, by omega, by omega, bt, fun z => ?_, fun _ => ⟨by decide, tf_pi ⟨fin.1, fin.2.1, Or.inl ⟨rfl, fin.2.2⟩⟩⟩⟩
  rw [tf_up_at] at z
  exact absurd rfl z
set_option maxHeartbeats 2000000 in
theorem sp_66 {x y : Int} {G1 : tf_Sto} (ht : xts c G) (hmx : tmax c (G 16) (xB G)) (hi : xMI c (G 16) (xB G) x y G G1) {a : Int} (ha : mf_dom c a) (hp : G1 33 a ≠ -1) :
    tf_RUN l 66 [tf_r 32, tf_i a] G1 (tf_PI fun r G2 => xMI c (G 16) (xB G) x y G G2 ∧ xMm G1 G2 ∧ ((r = 1 ∧ (G 16 a ≠ -1 → G 16 a = G 16 (G1 33 a) ∧ ∀ k, 0 ≤ k → k < mf_w (G 16 a) → G2 33 (xB G a k) = xB G (G1 33 a) k)) ∨ (r = 0 ∧ ¬ tmatch c (G 16) (xB G) x y))) := by
  have hc := ht.1
  have ba := ht.b ha
  have e16 := hi.1 16 (by decide) (by decide) (by decide)
  obtain ⟨dp, hC⟩ := hi.2.2.2.2 a ha hp
  have bp := ht.b dp
  refine vc_66 ⟨ba, fun q => ⟨ba, bp, fun q2 => ?_, fun q2 => ⟨by decide, tf_pi ⟨hi, xMm.refl, Or.inr ⟨rfl, ?_⟩⟩⟩⟩, fun q => ⟨by decide, tf_pi ⟨hi, xMm.refl, Or.inl ⟨rfl, fun z => absurd (by rw [← e16]; exact q) z⟩⟩⟩⟩
  · have hl : G 16 a ≠ -1 := by rw [← e16]; exact q
    have hh : G 16 a = G 16 (G1 33 a) := by rw [← e16]; exact q2
    have hsp := sp_24 (l := l) (G := G1) (a := G1 16 a) (by rw [e16]; exact ht.h ha)
    refine tf_re hsp ?_
    rw [e16]
    have hw := mf_w_in (G 16 a)
    generalize hP : G1 33 a = p at *
    have key : ∀ (d : Nat) (G2 : tf_Sto) (k : Int), 0 ≤ k → k + d = mf_w (G 16 a) → xMI c (G 16) (xB G) x y G G2 → xMm G1 G2 → (∀ j, 0 ≤ j → j < k → G2 33 (xB G a j) = xB G p j) →
        tf_AW l 66 none (tf_PI fun r G2 => xMI c (G 16) (xB G) x y G G2 ∧ xMm G1 G2 ∧ ((r = 1 ∧ (G 16 a ≠ -1 → G 16 a = G 16 p ∧ ∀ k, 0 ≤ k → k < mf_w (G 16 a) → G2 33 (xB G a k) = xB G p k)) ∨ (r = 0 ∧ ¬ tmatch c (G 16) (xB G) x y))) 48 [(0, tf_r 32), (1, tf_i a), (3, tf_i p), (4, tf_i (mf_w (G 16 a))), (5, tf_i k)] [] (none, false) G2 := by
      intro d
      induction d with
      | zero =>
        intro G2 k k0 k1 y1 y2 y3
        exact vc_66_48 ⟨fun _ => ⟨by decide, tf_pi ⟨y1, y2, Or.inl ⟨rfl, fun _ => ⟨hh, fun j j0 j1 => y3 j j0 (by omega)⟩⟩⟩⟩, fun z => by omega⟩
      | succ d ih =>
        intro G2 k k0 k1 y1 y2 y3
        have e20 := y1.1 20 (by decide) (by decide) (by decide)
        have hspa := sp_43 (l := l) (G := G2) ba (k := k) (by omega)
        have hspp := sp_43 (l := l) (G := G2) bp (k := k) (by omega)
        rw [e20] at hspa hspp
        have d1 : mf_dom c (xB G a k) := (ht.2 a ha).2 k k0 (by omega)
        have d2 : mf_dom c (xB G p k) := (ht.2 p dp).2 k k0 (by rw [← hh]; omega)
        have hs : ∀ C, tvalid c (G 16) (xB G) x y C → C (xB G a k) (xB G p k) := fun C hCv => (hCv.2.2.1 _ _ (hC C hCv) hl).2 k k0 (by omega)
        refine vc_66_48 ⟨fun z => by omega, fun _ => tf_re hspa (tf_re hspp (tf_ri (sp_67 hc y1 d1 d2 hs) ?_))⟩
        rintro r G3 ⟨z1, z2, z3⟩
        refine ⟨fun w => ⟨by omega, ih G3 _ (by omega) (by omega) z1 (y2.trans z2) (fun j j0 j1 => ?_)⟩, fun w => ⟨by decide, tf_pi ⟨z1, y2.trans z2, Or.inr ⟨rfl, ?_⟩⟩⟩⟩
        · by_cases e : j = k
          · rw [e]
            rcases z3 with z3 | z3
            · exact z3.2
            · exact absurd z3.1 w
          · have y4 := y3 j j0 (by omega)
            have d3 : mf_dom c (xB G p j) := (ht.2 p dp).2 j j0 (by rw [← hh]; omega)
            have := d3.1
            rw [z2.1 _ (by omega)]
            exact y4
        · rintro ⟨C, hCv⟩
          rcases z3 with z3 | ⟨-, z4, z5⟩
          · omega
          · exact z5 (tvalid_fun hmx hCv ((y1.2.2.2.2 _ d1 z4).2 C hCv) (hs C hCv))
    exact key (mf_w (G 16 a)).toNat G1 0 (by omega) (by omega) hi xMm.refl (fun j j0 j1 => by omega)
  · rintro ⟨C, hCv⟩
    rw [e16] at q q2
    exact q2 (hCv.2.2.1 _ _ (hC C hCv) q).1
set_option maxHeartbeats 2000000 in
theorem sp_65 {x y : Int} (ht : xts c G) (hmx : tmax c (G 16) (xB G)) (hx : mf_dom c x) (hy : mf_dom c y) : tf_RUN l 65 [tf_r 32, tf_i x, tf_i y] G (tf_PI fun r G' => (∀ k : Nat, k ≠ 32 → k ≠ 33 → k ≠ 34 → G' k = G k) ∧ ((r = 1 ∧ tmatch c (G 16) (xB G) x y) ∨ (r = 0 ∧ ¬ tmatch c (G 16) (xB G) x y))) := by
  have hc := ht.1
  refine vc_65 (tf_rv sp_fI33 ?_)
  rintro G0 ⟨f1, f2⟩
  have h0 : ∀ a, mf_dom c a → tf_up G0 32 3 0 33 a = -1 := fun a ha => by rw [tf_upo (by decide)]; exact f2 a ha.1 (ht.b ha).2
  have hi0 : xMI c (G 16) (xB G) x y G (tf_up G0 32 3 0) := by
    refine ⟨fun k a b _ => by rw [tf_upo a]; exact f1 k b, ?_, ?_, fun a ha z => absurd (h0 a ha) z, fun a ha z => absurd (h0 a ha) z⟩
    · rw [tf_up_at]
      exact (mf_cnt_none (fun t t0 t1 z => z (h0 t (mf_nat_dom t0 t1)))).symm
    · rw [tf_up_at]; intro j hj; have := hj.1; have := hj.2; omega
  refine tf_ri (sp_67 hc hi0 hx hy (fun C hCv => hCv.1)) ?_
  rintro r G1 ⟨a1, a2, a3⟩
  have hxy : G1 33 x = y := by
    rcases a3 with a3 | a3
    · exact a3.2
    · exact absurd (h0 x hx) a3.2.1
  have key : ∀ (d : Nat) (G2 : tf_Sto) (v : Int), 0 ≤ v → v + d = 301 → xMI c (G 16) (xB G) x y G G2 → G2 33 x = y → (∀ j, 0 ≤ j → j < v → j < G2 32 3 → G 16 (G2 34 j) ≠ -1 → G 16 (G2 34 j) = G 16 (G2 33 (G2 34 j)) ∧ ∀ k, 0 ≤ k → k < mf_w (G 16 (G2 34 j)) → G2 33 (xB G (G2 34 j) k) = xB G (G2 33 (G2 34 j)) k) →
      tf_AW l 65 none (tf_PI fun r G' => (∀ k : Nat, k ≠ 32 → k ≠ 33 → k ≠ 34 → G' k = G k) ∧ ((r = 1 ∧ tmatch c (G 16) (xB G) x y) ∨ (r = 0 ∧ ¬ tmatch c (G 16) (xB G) x y))) 22 [(0, tf_r 32), (3, tf_i v)] [] (none, false) G2 := by
    intro d
    have fin : ∀ (G2 : tf_Sto) (v : Int), G2 32 3 ≤ v → xMI c (G 16) (xB G) x y G G2 → G2 33 x = y → (∀ j, 0 ≤ j → j < v → j < G2 32 3 → G 16 (G2 34 j) ≠ -1 → G 16 (G2 34 j) = G 16 (G2 33 (G2 34 j)) ∧ ∀ k, 0 ≤ k → k < mf_w (G 16 (G2 34 j)) → G2 33 (xB G (G2 34 j) k) = xB G (G2 33 (G2 34 j)) k) →
        tmatch c (G 16) (xB G) x y := by
      intro G2 v hv hi hxy hcl
      have y0 := hy.1
      refine ⟨fun a e => mf_dom c a ∧ mf_dom c e ∧ G2 33 a = e, ⟨hx, hy, hxy⟩, fun a e q => ⟨q.1, q.2.1⟩, fun a e q hl => ?_, fun a e e' q q' _ => q.2.2.symm.trans q'.2.2⟩
      obtain ⟨q1, q2, q3⟩ := q
      have q20 := q2.1
      obtain ⟨j, j1, j2⟩ := hi.2.2.2.1 a q1 (by omega)
      obtain ⟨w1, w2⟩ := hcl j j1.1 (by have := j1.2; omega) j1.2 (by rw [j2]; exact hl)
      rw [j2, q3] at w1 w2
      exact ⟨w1, fun k k0 k1 => ⟨(ht.2 a q1).2 k k0 k1, (ht.2 e q2).2 k k0 (by rw [← w1]; exact k1), w2 k k0 k1⟩⟩
    induction d with
    | zero =>
      intro G2 v v0 v1 hi hxy hcl
      have h1 := hi.2.1
      have h2 := (mf_cnt_in (fun a => G2 33 a ≠ -1) c.toNat).2
      exact vc_65_22 ⟨fun z => ⟨by decide, tf_pi ⟨hi.1, Or.inl ⟨rfl, fin G2 v z hi hxy hcl⟩⟩⟩, fun z => by omega⟩
    | succ d ih =>
      intro G2 v v0 v1 hi hxy hcl
      have h1 := hi.2.1
      have h2 := (mf_cnt_in (fun a => G2 33 a ≠ -1) c.toNat).2
      refine vc_65_22 ⟨fun z => ⟨by decide, tf_pi ⟨hi.1, Or.inl ⟨rfl, fin G2 v z hi hxy hcl⟩⟩⟩, fun z => ⟨fun z' => by omega, fun z' => ⟨by omega, ?_⟩⟩⟩
      obtain ⟨w1, w2⟩ := hi.2.2.1 v ⟨v0, z⟩
      refine tf_ri (sp_66 ht hmx hi w1 w2) ?_
      rintro r G3 ⟨b1, b2, b3⟩
      refine ⟨fun q => ⟨by omega, ih G3 _ (by omega) (by omega) b1 ?_ (fun j j0 j1 j2 hl => ?_)⟩, fun q => ⟨by decide, tf_pi ⟨b1.1, Or.inr ⟨rfl, ?_⟩⟩⟩⟩
      · have := hy.1
        rw [b2.1 x (by omega)]; exact hxy
      · have b3' : G 16 (G2 34 v) ≠ -1 → G 16 (G2 34 v) = G 16 (G2 33 (G2 34 v)) ∧ ∀ k, 0 ≤ k → k < mf_w (G 16 (G2 34 v)) → G3 33 (xB G (G2 34 v) k) = xB G (G2 33 (G2 34 v)) k := by
          rcases b3 with b3 | b3
          · exact b3.2
          · exact absurd b3.1 q
        by_cases e : j = v
        · subst e
          rw [b2.2.2 j ⟨v0, z⟩] at hl ⊢
          rw [b2.1 _ w2]
          exact b3' hl
        · have dj : mf_dom (G2 32 3) j := ⟨j0, by omega⟩
          obtain ⟨s1, s2⟩ := hi.2.2.1 j dj
          rw [b2.2.2 j dj] at hl ⊢
          rw [b2.1 _ s2]
          obtain ⟨t1, t2⟩ := hcl j j0 (by omega) dj.2 hl
          refine ⟨t1, fun k k0 k1 => ?_⟩
          have dpj := (hi.2.2.2.2 _ s1 s2).1
          have := ((ht.2 _ dpj).2 k k0 (by rw [← t1]; exact k1)).1
          rw [b2.1 _ (by rw [t2 k k0 k1]; omega)]
          exact t2 k k0 k1
      · rcases b3 with b3 | b3
        · omega
        · exact b3.2
  exact key 301 G1 0 (by omega) (by omega) a1 hxy (fun j j0 j1 => by omega)
end
