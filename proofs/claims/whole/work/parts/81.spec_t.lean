-- SPEC T: what is in a tree
def treach (c : Int) (h : Int → Int) (b : Int → Int → Int) (x y : Int) : Prop := ∀ P : Int → Prop, P x → (∀ z, mf_dom c z → P z → ∀ k, 0 ≤ k → k < mf_w (h z) → P (b z k)) → P y
theorem treach_in {c : Int} {h : Int → Int} {b : Int → Int → Int} {x z k : Int} (hz : mf_dom c z) (hr : treach c h b x z) (k0 : 0 ≤ k) (k1 : k < mf_w (h z)) : treach c h b x (b z k) := fun P p1 p2 => p2 z hz (hr P p1 p2) k k0 k1
def xB (G : tf_Sto) (x k : Int) : Int := G 20 (x * 3 + k)
def xts (c : Int) (G : tf_Sto) : Prop := (0 ≤ c ∧ c ≤ 300) ∧ ∀ x, mf_dom c x → (G 16 x = -1 ∨ (0 ≤ G 16 x ∧ G 16 x < 64)) ∧ ∀ k, 0 ≤ k → k < mf_w (G 16 x) → mf_dom c (xB G x k)
theorem xts.b {c : Int} {G : tf_Sto} (h : xts c G) {x : Int} (hx : mf_dom c x) : 0 ≤ x ∧ x < 300 := ⟨hx.1, by have := hx.2; have := h.1.2; omega⟩
theorem xts.h {c : Int} {G : tf_Sto} (h : xts c G) {x : Int} (hx : mf_dom c x) : G 16 x = -1 ∨ 0 ≤ G 16 x := by
  rcases (h.2 x hx).1 with q | q
  · exact Or.inl q
  · exact Or.inr q.1
theorem xts.fr {c : Int} {G G' : tf_Sto} (h : xts c G) (e1 : G' 16 = G 16) (e2 : G' 20 = G 20) : xts c G' := by
  unfold xts xB
  rw [e1, e2]
  exact h
section
variable {l : Launch} {G : tf_Sto} {n c : Int} {hd : Int → Int} {ch : Int → Int → Int} {rt sh : Int → Int}
theorem xFV.ts (hx : xs n hd ch rt sh G) (hv : xFV n hd ch rt sh G) : xts (G 15 0) G := by
  obtain ⟨v1, v2, v3, v4, v5, v6, v7⟩ := hv
  refine ⟨by have := hx.2.1.2; omega, fun x hxx => ?_⟩
  obtain ⟨r, r1, r2, rfl⟩ := v4 x hxx
  obtain ⟨a1, a2, a3, a4⟩ := v3 r r1 r2
  rw [a2]
  refine ⟨?_, fun k k0 k1 => ?_⟩
  · rcases mh_in hx.par hx.2.2.1 r1 with q | q
    · exact Or.inl q.1
    · exact Or.inr ⟨q.1, q.2.1⟩
  · show mf_dom _ (G 20 (G 26 r * 3 + k))
    rw [a4 k k0 k1]
    obtain ⟨p1, p2, -⟩ := hx.par _ (mc_dom hx.par hx.2.2.1 r1 k0 k1).1
    exact (v3 _ p1 p2).1
/-- the list of what was come to -/
def xrl (c top : Int) (G : tf_Sto) : Prop := G 29 0 = mf_cnt (fun y => G 31 y ≠ 0) c.toNat ∧ (∀ j, mf_dom (G 29 0) j → mf_dom c (G 30 j) ∧ G 31 (G 30 j) ≠ 0) ∧ (∀ i j, mf_dom (G 29 0) i → mf_dom (G 29 0) j → G 30 i = G 30 j → i = j) ∧
  (∀ y, mf_dom c y → G 31 y ≠ 0 → ∃ j, mf_dom (G 29 0) j ∧ G 30 j = y) ∧ ∀ y, mf_dom c y → G 31 y ≠ 0 → treach c (G 16) (xB G) top y
def xfr4 (G G' : tf_Sto) : Prop := ∀ k : Nat, k ≠ 29 → k ≠ 30 → k ≠ 31 → G' k = G k
theorem xfr4.trans {G G' G'' : tf_Sto} (h : xfr4 G G') (h' : xfr4 G' G'') : xfr4 G G'' := fun k a b c => (h' k a b c).trans (h k a b c)
theorem xB_eq {G' : tf_Sto} (e : G' 20 = G 20) : xB G' = xB G := by unfold xB; rw [e]
set_option maxHeartbeats 1000000 in
theorem sp_64 {top : Int} (ht : xts c G) (hl : xrl c top G) {y : Int} (hy : mf_dom c y) (hr : treach c (G 16) (xB G) top y) :
    tf_RUN l 64 [tf_r 29, tf_i y] G (tf_PV fun G' => xfr4 G G' ∧ xrl c top G' ∧ G' 31 y ≠ 0 ∧ (∀ z, G 31 z ≠ 0 → G' 31 z ≠ 0) ∧ G 29 0 ≤ G' 29 0 ∧ ∀ j, mf_dom (G 29 0) j → G' 30 j = G 30 j) := by
  have hc := ht.1
  have by_ := ht.b hy
  obtain ⟨l1, l2, l3, l4, l5⟩ := id hl
  have hcnt := mf_cnt_in (fun y => G 31 y ≠ 0) c.toNat
  refine vc_64 ⟨by_, fun q => tf_pv ⟨fun _ _ _ _ => rfl, hl, q, fun _ h => h, Int.le_refl _, fun _ _ => rfl⟩, fun q => ?_⟩
  have hadd : mf_cnt (fun z => tf_up (tf_up (tf_up G 31 y 1) 30 (G 29 0) y) 29 0 (G 29 0 + 1) 31 z ≠ 0) c.toNat = mf_cnt (fun z => G 31 z ≠ 0) c.toNat + 1 := by
    refine mf_cnt_add (P := fun z => G 31 z ≠ 0) (a := y) hy.1 (mf_dom_nat hy) (fun z => z q) (fun t t0 t1 => ?_)
    show tf_up (tf_up (tf_up G 31 y 1) 30 (G 29 0) y) 29 0 (G 29 0 + 1) 31 t ≠ 0 ↔ G 31 t ≠ 0 ∨ t = y
    rw [tf_upo (by decide), tf_upo (by decide), tf_up_eq]
    by_cases e : t = y
    · rw [if_pos e]; exact ⟨fun _ => Or.inr e, fun _ => by decide⟩
    · rw [if_neg e]; exact ⟨fun z => Or.inl z, fun z => z.resolve_right e⟩
  have hle := (mf_cnt_in (fun z => tf_up (tf_up (tf_up G 31 y 1) 30 (G 29 0) y) 29 0 (G 29 0 + 1) 31 z ≠ 0) c.toNat).2
  have u31 : ∀ z, tf_up (tf_up (tf_up G 31 y 1) 30 (G 29 0) y) 29 0 (G 29 0 + 1) 31 z = if z = y then 1 else G 31 z := fun z => by
    rw [tf_upo (by decide), tf_upo (by decide), tf_up_eq]
  have u30 : ∀ j, tf_up (tf_up (tf_up G 31 y 1) 30 (G 29 0) y) 29 0 (G 29 0 + 1) 30 j = if j = G 29 0 then y else G 30 j := fun j => by
    rw [tf_upo (by decide), tf_up_eq, tf_upo' (by decide)]
  have u29 : tf_up (tf_up (tf_up G 31 y 1) 30 (G 29 0) y) 29 0 (G 29 0 + 1) 29 0 = G 29 0 + 1 := tf_up_at
  have hfr : xfr4 G (tf_up (tf_up (tf_up G 31 y 1) 30 (G 29 0) y) 29 0 (G 29 0 + 1)) := fun k a b c => by rw [tf_upo a, tf_upo b, tf_upo c]
  refine ⟨by_, by decide, by omega, by omega, tf_pv ?_⟩
  generalize tf_up (tf_up (tf_up G 31 y 1) 30 (G 29 0) y) 29 0 (G 29 0 + 1) = G' at *
  have e16 := hfr 16 (by decide) (by decide) (by decide)
  have e20 := hfr 20 (by decide) (by decide) (by decide)
  refine ⟨hfr, ⟨by rw [u29, hadd, l1], fun j hj => ?_, fun i j hi hj => ?_, fun z hz => ?_, fun z hz => ?_⟩, by rw [u31, if_pos rfl]; decide, fun z hz => ?_, by rw [u29]; omega, fun j hj => ?_⟩
  · rw [u29] at hj
    rw [u30]
    by_cases e : j = G 29 0
    · rw [if_pos e, u31, if_pos rfl]; exact ⟨hy, by decide⟩
    · rw [if_neg e, u31]
      obtain ⟨a1, a2⟩ := l2 j ⟨hj.1, by have := hj.2; omega⟩
      refine ⟨a1, ?_⟩
      split
      · decide
      · exact a2
  · rw [u29] at hi hj
    rw [u30, u30]
    have i1 := hi.1; have i2 := hi.2; have j1 := hj.1; have j2 := hj.2
    by_cases e : i = G 29 0 <;> by_cases e' : j = G 29 0
    · intro _; rw [e, e']
    · rw [if_pos e, if_neg e']
      intro z
      exfalso
      have := (l2 j ⟨j1, by omega⟩).2
      rw [← z] at this
      exact this q
    · rw [if_neg e, if_pos e']
      intro z
      exfalso
      have := (l2 i ⟨i1, by omega⟩).2
      rw [z] at this
      exact this q
    · rw [if_neg e, if_neg e']
      exact l3 i j ⟨i1, by omega⟩ ⟨j1, by omega⟩
  · rw [u31, u29]
    intro hn
    by_cases e : z = y
    · exact ⟨G 29 0, ⟨by omega, by omega⟩, by rw [u30, if_pos rfl, e]⟩
    · rw [if_neg e] at hn
      obtain ⟨j, j1, j2⟩ := l4 z hz hn
      have j3 := j1.2
      exact ⟨j, ⟨j1.1, by omega⟩, by rw [u30, if_neg (by omega)]; exact j2⟩
  · rw [u31, e16, xB_eq e20]
    intro hn
    by_cases e : z = y
    · rw [e]; exact hr
    · rw [if_neg e] at hn; exact l5 z hz hn
  · rw [u31]
    split
    · decide
    · exact hz
  · rw [u30, if_neg]
    have := hj.2
    omega
set_option maxHeartbeats 1000000 in
theorem sp_62 {top : Int} (ht : xts c G) (hy : mf_dom c top) : tf_RUN l 62 [tf_r 29, tf_i top] G (tf_PV fun G' => xfr4 G G' ∧ xrl c top G' ∧ ∀ y, mf_dom c y → (G' 31 y ≠ 0 ↔ treach c (G 16) (xB G) top y)) := by
  have hc := ht.1
  refine vc_62 (tf_rv sp_fB31 ?_)
  rintro G0 ⟨f1, f2⟩
  have f0 : xfr4 G (tf_up G0 29 0 0) := fun k a b c => by rw [tf_upo a]; exact f1 k c
  have ht0 : xts c (tf_up G0 29 0 0) := ht.fr (f0 16 (by decide) (by decide) (by decide)) (f0 20 (by decide) (by decide) (by decide))
  have h0 : ∀ y, mf_dom c y → tf_up G0 29 0 0 31 y = 0 := fun y hy' => by rw [tf_upo (by decide)]; exact f2 y hy'.1 (ht.b hy').2
  have hl0 : xrl c top (tf_up G0 29 0 0) := by
    refine ⟨?_, ?_, ?_, fun y hy' z => absurd (h0 y hy') z, fun y hy' z => absurd (h0 y hy') z⟩
    · rw [tf_up_at]
      exact (mf_cnt_none (fun t t0 t1 z => z (h0 t (mf_nat_dom t0 t1)))).symm
    · rw [tf_up_at]; intro j hj; have := hj.1; have := hj.2; omega
    · rw [tf_up_at]; intro i j hi; have := hi.1; have := hi.2; omega
  refine tf_rv (sp_64 ht0 hl0 hy (fun P p1 _ => p1)) ?_
  rintro G1 ⟨a1, a2, a3, a4, a5, a6⟩
  have key : ∀ (d : Nat) (G2 : tf_Sto) (v : Int), 0 ≤ v → v + d = 301 → xfr4 G G2 → xrl c top G2 → G2 31 top ≠ 0 → (∀ j, 0 ≤ j → j < v → j < G2 29 0 → ∀ k, 0 ≤ k → k < mf_w (G 16 (G2 30 j)) → G2 31 (xB G (G2 30 j) k) ≠ 0) →
      tf_AW l 62 none (tf_PV fun G' => xfr4 G G' ∧ xrl c top G' ∧ ∀ y, mf_dom c y → (G' 31 y ≠ 0 ↔ treach c (G 16) (xB G) top y)) 20 [(0, tf_r 29), (2, tf_i v)] [] (none, false) G2 := by
    intro d
    induction d with
    | zero =>
      intro G2 v v0 v1 hf hl htop hcl
      have h1 := hl.1
      have h2 := (mf_cnt_in (fun y => G2 31 y ≠ 0) c.toNat).2
      have e16 := hf 16 (by decide) (by decide) (by decide)
      have e20 := hf 20 (by decide) (by decide) (by decide)
      have fin : (tf_PV fun G' => xfr4 G G' ∧ xrl c top G' ∧ ∀ y, mf_dom c y → (G' 31 y ≠ 0 ↔ treach c (G 16) (xB G) top y)) (.inl none) G2 := by
        refine tf_pv ⟨hf, hl, fun y hy' => ⟨fun z => ?_, fun z => ?_⟩⟩
        · have := hl.2.2.2.2 y hy' z
          rwa [e16, xB_eq e20] at this
        · refine z (fun w => G2 31 w ≠ 0) htop (fun w hw q k k0 k1 => ?_)
          obtain ⟨j, j1, j2⟩ := hl.2.2.2.1 w hw q
          rw [← j2]
          exact hcl j j1.1 (by have := j1.2; omega) j1.2 k k0 (by rw [j2]; exact k1)
      exact vc_62_20 ⟨fun _ => fin, fun z => by omega⟩
    | succ d ih =>
      intro G2 v v0 v1 hf hl htop hcl
      have h1 := hl.1
      have h2 := (mf_cnt_in (fun y => G2 31 y ≠ 0) c.toNat).2
      have e16 := hf 16 (by decide) (by decide) (by decide)
      have e20 := hf 20 (by decide) (by decide) (by decide)
      have ht2 : xts c G2 := ht.fr e16 e20
      have fin : G2 29 0 ≤ v → (tf_PV fun G' => xfr4 G G' ∧ xrl c top G' ∧ ∀ y, mf_dom c y → (G' 31 y ≠ 0 ↔ treach c (G 16) (xB G) top y)) (.inl none) G2 := by
        intro hv
        refine tf_pv ⟨hf, hl, fun y hy' => ⟨fun z => ?_, fun z => ?_⟩⟩
        · have := hl.2.2.2.2 y hy' z
          rwa [e16, xB_eq e20] at this
        · refine z (fun w => G2 31 w ≠ 0) htop (fun w hw q k k0 k1 => ?_)
          obtain ⟨j, j1, j2⟩ := hl.2.2.2.1 w hw q
          rw [← j2]
          exact hcl j j1.1 (by have := j1.2; omega) j1.2 k k0 (by rw [j2]; exact k1)
      refine vc_62_20 ⟨fun z => fin z, fun z => ⟨fun z' => by omega, fun z' => ?_⟩⟩
      have dv : mf_dom (G2 29 0) v := ⟨v0, z⟩
      obtain ⟨x1, x2⟩ := hl.2.1 v dv
      have bx := ht.b x1
      have hsp := sp_24 (l := l) (G := G2) (ht2.h x1)
      rw [e16] at hsp
      refine ⟨by omega, bx, ?_⟩
      rw [e16]
      refine tf_re hsp ?_
      -- the trees below
      have inner : ∀ (f : Nat) (G3 : tf_Sto) (k : Int), 0 ≤ k → k + f = mf_w (G 16 (G2 30 v)) → xfr4 G G3 → xrl c top G3 → G3 31 top ≠ 0 → (∀ z, G2 31 z ≠ 0 → G3 31 z ≠ 0) → G2 29 0 ≤ G3 29 0 → (∀ j, mf_dom (G2 29 0) j → G3 30 j = G2 30 j) → (∀ i, 0 ≤ i → i < k → G3 31 (xB G (G2 30 v) i) ≠ 0) →
          tf_AW l 62 none (tf_PV fun G' => xfr4 G G' ∧ xrl c top G' ∧ ∀ y, mf_dom c y → (G' 31 y ≠ 0 ↔ treach c (G 16) (xB G) top y)) 59 [(0, tf_r 29), (2, tf_i v), (3, tf_i (G2 30 v)), (4, tf_i (mf_w (G 16 (G2 30 v)))), (5, tf_i k)] [] (none, false) G3 := by
        intro f
        induction f with
        | zero =>
          intro G3 k k0 k1 hf3 hl3 ht3 m1 m2 m3 m4
          refine vc_62_59 ⟨fun _ => ⟨by omega, ih G3 _ (by omega) (by omega) hf3 hl3 ht3 (fun j j0 j1 j2 i i0 i1 => ?_)⟩, fun z => by omega⟩
          by_cases e : j = v
          · subst e
            rw [m3 j dv] at i1 ⊢
            exact m4 i i0 (by omega)
          · have dj : mf_dom (G2 29 0) j := ⟨j0, by omega⟩
            rw [m3 j dj] at i1 ⊢
            exact m1 _ (hcl j j0 (by omega) (by omega) i i0 i1)
        | succ f ihf =>
          intro G3 k k0 k1 hf3 hl3 ht3 m1 m2 m3 m4
          have w3 := mf_w_in (G 16 (G2 30 v))
          have e16' := hf3 16 (by decide) (by decide) (by decide)
          have e20' := hf3 20 (by decide) (by decide) (by decide)
          have hsp := sp_43 (l := l) (G := G3) bx (k := k) (by omega)
          rw [e20'] at hsp
          have hchd : mf_dom c (xB G (G2 30 v) k) := (ht.2 _ x1).2 k k0 (by omega)
          have hrv : treach c (G 16) (xB G) top (G2 30 v) := by
            have := hl.2.2.2.2 _ x1 x2
            rwa [e16, xB_eq e20] at this
          refine vc_62_59 ⟨fun z => by omega, fun _ => tf_re hsp (tf_rv (sp_64 (top := top) (ht.fr e16' e20') hl3 hchd ?_) ?_)⟩
          · rw [e16', xB_eq e20']
            exact treach_in x1 hrv k0 (by omega)
          · rintro G4 ⟨b1, b2, b3, b4, b5, b6⟩
            refine ⟨by omega, ihf G4 _ (by omega) (by omega) (hf3.trans b1) b2 (b4 _ ht3) (fun z q => b4 z (m1 z q)) (by omega) (fun j hj => ?_) (fun i i0 i1 => ?_)⟩
            · rw [b6 j ⟨hj.1, by have := hj.2; omega⟩]; exact m3 j hj
            · by_cases e : i = k
              · rw [e]; exact b3
              · exact b4 _ (m4 i i0 (by omega))
      exact inner (mf_w (G 16 (G2 30 v))).toNat G2 0 (by omega) (by have := mf_w_in (G 16 (G2 30 v)); omega) hf hl htop (fun _ h => h) (Int.le_refl _) (fun _ _ => rfl) (fun i i0 i1 => by omega)
  exact key 301 G1 0 (by omega) (by omega) (f0.trans a1) a2 a3 (fun j j0 j1 => by omega)
theorem sp_63 {top : Int} (ht : xts c G) (hl : xrl c top G) : tf_RUN l 63 [tf_r 29] G (tf_PI fun r G' => r = mf_cnt (fun y => G 31 y ≠ 0 ∧ G 16 y = -1) c.toNat ∧ G' = G) := by
  have hc := ht.1
  obtain ⟨l1, l2, l3, l4, l5⟩ := hl
  have hcnt := mf_cnt_in (fun y => G 31 y ≠ 0) c.toNat
  refine vc_63 ?_
  have key : ∀ (d : Nat) (v1 v2 : Int), 0 ≤ v2 → v2 + d = G 29 0 → v1 = mf_cnt (fun y => G 16 y = -1 ∧ ∃ j, 0 ≤ j ∧ j < v2 ∧ G 30 j = y) c.toNat → tf_AW l 63 none (tf_PI fun r G' => r = mf_cnt (fun y => G 31 y ≠ 0 ∧ G 16 y = -1) c.toNat ∧ G' = G) 4 [(0, tf_r 29), (1, tf_i v1), (2, tf_i v2)] [] (none, false) G := by
    intro d
    induction d with
    | zero =>
      intro v1 v2 h0 h1 h2
      refine vc_63_4 ⟨fun _ => tf_pi ⟨?_, rfl⟩, fun z => by omega⟩
      rw [h2]
      refine mf_cnt_congr (fun t t0 t1 => ⟨fun q => ?_, fun q => ?_⟩)
      · obtain ⟨q1, j, j0, j1, j2⟩ := q
        exact ⟨by rw [← j2]; exact (l2 j ⟨j0, by omega⟩).2, q1⟩
      · obtain ⟨j, j1, j2⟩ := l4 t (mf_nat_dom t0 t1) q.1
        exact ⟨q.2, j, j1.1, by have := j1.2; omega, j2⟩
    | succ d ih =>
      intro v1 v2 h0 h1 h2
      have dv : mf_dom (G 29 0) v2 := ⟨h0, by omega⟩
      obtain ⟨x1, x2⟩ := l2 v2 dv
      have hle := mf_cnt_in (fun y => G 16 y = -1 ∧ ∃ j, 0 ≤ j ∧ j < v2 ∧ G 30 j = y) c.toNat
      refine vc_63_4 ⟨fun z => by omega, fun _ => ⟨by omega, ht.b x1, fun q => ⟨by omega, ih _ _ (by omega) (by omega) ?_⟩, fun q => ⟨by omega, by omega, ih _ _ (by omega) (by omega) ?_⟩⟩⟩
      · rw [h2]
        refine mf_cnt_congr (fun t t0 t1 => ⟨fun z => ?_, fun z => ?_⟩)
        · obtain ⟨z1, j, j0, j1, j2⟩ := z
          exact ⟨z1, j, j0, by omega, j2⟩
        · obtain ⟨z1, j, j0, j1, j2⟩ := z
          refine ⟨z1, j, j0, ?_, j2⟩
          have : j ≠ v2 := fun e => by rw [e] at j2; rw [j2] at q; exact q z1
          omega
      · rw [h2]
        refine (mf_cnt_add (a := G 30 v2) x1.1 (mf_dom_nat x1) ?_ (fun t t0 t1 => ?_)).symm
        · rintro ⟨-, j, j0, j1, j2⟩
          have := l3 j v2 ⟨j0, by have := dv.2; omega⟩ dv j2
          omega
        · constructor
          · rintro ⟨z1, j, j0, j1, j2⟩
            by_cases e : j = v2
            · exact Or.inr (by rw [← j2, e])
            · exact Or.inl ⟨z1, j, j0, by omega, j2⟩
          · rintro (⟨z1, j, j0, j1, j2⟩ | z)
            · exact ⟨z1, j, j0, by omega, j2⟩
            · exact ⟨by rw [z]; exact q, v2, h0, by omega, z.symm⟩
  refine key (G 29 0).toNat 0 0 (by omega) (by omega) (mf_cnt_none (fun t _ _ z => ?_)).symm
  obtain ⟨-, j, j0, j1, -⟩ := z
  omega
end
