-- SPEC R: the reference: what is asked of trees; measures
def mH (hd : Int → Int) (G : tf_Sto) (x : Int) : Int := mh hd (G 50) (G 51) (G 55 x)
def mB (ch : Int → Int → Int) (G : tf_Sto) (x k : Int) : Int := G 53 (mc ch (G 50) (G 51) (G 55 x) k)
def mtc (n : Int) (hd : Int → Int) (ch : Int → Int → Int) (c : Int) (G : tf_Sto) : Prop := ms n hd ch G ∧ G 42 18 = c ∧ (0 ≤ c ∧ c ≤ 300) ∧ (∀ x, mf_dom c x → mf_dom n (G 55 x)) ∧ ∀ t, mf_dom n t → mf_dom c (G 53 t)
def mkp (G G' : tf_Sto) : Prop := (∀ k : Nat, 43 ≤ k → k ≤ 55 → G' k = G k) ∧ ∀ j : Int, j ≠ 26 → j ≠ 30 → G' 42 j = G 42 j
theorem mkp.refl {G : tf_Sto} : mkp G G := ⟨fun _ _ _ => rfl, fun _ _ _ => rfl⟩
theorem mkp.trans {G G' G'' : tf_Sto} (h : mkp G G') (h' : mkp G' G'') : mkp G G'' := ⟨fun k a b => (h'.1 k a b).trans (h.1 k a b), fun j a b => (h'.2 j a b).trans (h.2 j a b)⟩
theorem mkp.up {G G' : tf_Sto} (h : mkp G G') {k : Nat} {i v : Int} (hk : 56 ≤ k ∨ (k = 42 ∧ (i = 26 ∨ i = 30))) : mkp G (tf_up G' k i v) := by
  refine ⟨fun k' a b => ?_, fun j a b => ?_⟩
  · rw [tf_upo (by omega)]; exact h.1 k' a b
  · by_cases e : k = 42
    · subst e
      rw [tf_up_eq, if_neg (by omega)]
      exact h.2 j a b
    · rw [tf_upo (fun z => e z.symm)]
      exact h.2 j a b
section
variable {l : Launch} {G : tf_Sto} {n c : Int} {hd : Int → Int} {ch : Int → Int → Int} {E : List (Int × Int)}
theorem mtc.kp {G' : tf_Sto} (h : mtc n hd ch c G) (hk : mkp G G') : mtc n hd ch c G' := by
  refine ⟨h.1.fr (hk.2 1 (by decide) (by decide)) (hk.1 43 (by decide) (by decide)) (hk.1 44 (by decide) (by decide)) (hk.1 45 (by decide) (by decide)) (hk.1 50 (by decide) (by decide)) (hk.1 51 (by decide) (by decide)), (hk.2 18 (by decide) (by decide)).trans h.2.1, h.2.2.1, ?_, ?_⟩
  · rw [hk.1 55 (by decide) (by decide)]; exact h.2.2.2.1
  · rw [hk.1 53 (by decide) (by decide)]; exact h.2.2.2.2
theorem mkp.H {G' : tf_Sto} (hk : mkp G G') : mH hd G' = mH hd G := by
  unfold mH
  rw [hk.1 50 (by decide) (by decide), hk.1 51 (by decide) (by decide), hk.1 55 (by decide) (by decide)]
theorem mkp.B {G' : tf_Sto} (hk : mkp G G') : mB ch G' = mB ch G := by
  unfold mB
  rw [hk.1 50 (by decide) (by decide), hk.1 51 (by decide) (by decide), hk.1 53 (by decide) (by decide), hk.1 55 (by decide) (by decide)]
theorem mt.tc (h : mt n hd ch E G) : mtc n hd ch (G 42 18) G := by
  obtain ⟨h1, h2, h3, h4, h5⟩ := h
  have := mf_num_n h3.1 h4 h1.2.1.1
  exact ⟨h1, rfl, ⟨h4, by have := h1.2.1.2; omega⟩, fun x hx => (h5 x hx).1, h3.1.1⟩
theorem mtc.b (h : mtc n hd ch c G) {x : Int} (hx : mf_dom c x) : 0 ≤ x ∧ x < 300 := ⟨hx.1, by have := hx.2; have := h.2.2.1.2; omega⟩
theorem mtc.B (h : mtc n hd ch c G) {x k : Int} (hx : mf_dom c x) (k0 : 0 ≤ k) (k1 : k < mf_w (mH hd G x)) : mf_dom c (mB ch G x k) :=
  h.2.2.2.2 _ (mc_dom h.1.2.2.2 h.1.2.2.1 (h.2.2.2.1 x hx) k0 k1).1
theorem sp_98 (h : mtc n hd ch c G) {x k : Int} (hx : mf_dom c x) (k0 : 0 ≤ k) (k1 : k < mf_w (mH hd G x)) : tf_RUN l 98 [tf_r 42, tf_i x, tf_i k] G (tf_PI fun r G' => r = mB ch G x k ∧ G' = G) := by
  refine vc_98 ⟨h.b hx, tf_re (sp_92 h.1 (h.2.2.2.1 x hx) k0 k1) ⟨?_, tf_pi ⟨rfl, rfl⟩⟩⟩
  exact (h.1.b (mc_dom h.1.2.2.2 h.1.2.2.1 (h.2.2.2.1 x hx) k0 k1).1).1
theorem sp_99 (h : mtc n hd ch c G) {x : Int} (hx : mf_dom c x) : tf_RUN l 99 [tf_r 42, tf_i x] G (tf_PI fun r G' => r = mf_w (mH hd G x) ∧ G' = G) :=
  vc_99 ⟨h.b hx, tf_re (sp_93 h.1 (h.2.2.2.1 x hx)) (tf_pi ⟨rfl, rfl⟩)⟩
theorem sp_100 (h : mtc n hd ch c G) {x : Int} (hx : mf_dom c x) : tf_RUN l 100 [tf_r 42, tf_i x] G (tf_PI fun r G' => r = (if mH hd G x = -1 then 1 else 0) ∧ G' = G) := by
  refine vc_100 ⟨h.b hx, tf_re (sp_94 h.1 (h.2.2.2.1 x hx)) ⟨?_, tf_pi ⟨rfl, rfl⟩⟩⟩
  split
  · exact Or.inr rfl
  · exact Or.inl rfl
theorem sp_101 (h : mtc n hd ch c G) {x y : Int} (hx : mf_dom c x) (hy : mf_dom c y) : tf_RUN l 101 [tf_r 42, tf_i x, tf_i y] G (tf_PI fun r G' => G' = G ∧ ((r = 1 ∧ mH hd G x ≠ -1 ∧ mH hd G x = mH hd G y) ∨ (r = 0 ∧ ¬ (mH hd G x ≠ -1 ∧ mH hd G x = mH hd G y)))) := by
  have dx := h.2.2.2.1 x hx
  have dy := h.2.2.2.1 y hy
  obtain ⟨b1, b2, b3⟩ := h.1.b dx
  obtain ⟨e1, e2, e3⟩ := h.1.b dy
  have h300 := h.1.2.1.2
  unfold mH
  refine vc_101 ⟨h.b hx, b1, b2, h.b hy, e1, e2, ?_⟩
  rcases mh_in h.1.2.2.2 h.1.2.2.1 dx with ⟨p, p'⟩ | ⟨p1, p2, p3, p4, p5⟩
  · exact ⟨fun _ => ⟨by decide, tf_pi ⟨rfl, Or.inr ⟨rfl, fun z => z.1 p⟩⟩⟩, fun z => by omega⟩
  · have p6 := p4.1; have p7 := p4.2
    refine ⟨fun z => by omega, fun _ => ?_⟩
    rcases mh_in h.1.2.2.2 h.1.2.2.1 dy with ⟨q, q'⟩ | ⟨q1, q2, q3, q4, q5⟩
    · exact ⟨fun _ => ⟨by decide, tf_pi ⟨rfl, Or.inr ⟨rfl, fun z => z.1 (z.2.trans q)⟩⟩⟩, fun z => by omega⟩
    · have q6 := q4.1; have q7 := q4.2
      obtain ⟨s1, s2⟩ := h.1.sz p4 (by omega)
      obtain ⟨s3, s4⟩ := h.1.sz q4 (by omega)
      rw [s1, s2, s3, s4, ← p5, ← q5]
      refine ⟨fun z => by omega, fun _ => ⟨by omega, by omega, fun z => ⟨by decide, tf_pi ⟨rfl, Or.inr ⟨rfl, fun w => z (by rw [w.2])⟩⟩⟩, fun z => ⟨by omega, by omega, fun z2 => ⟨by decide, tf_pi ⟨rfl, Or.inr ⟨rfl, fun w => z2 (by rw [w.2])⟩⟩⟩, fun z2 => ⟨by decide, tf_pi ⟨rfl, Or.inl ⟨rfl, by omega, by omega⟩⟩⟩⟩⟩⟩
/-- what is finite, by trees below alone -/
def tfin (c : Int) (h : Int → Int) (b : Int → Int → Int) (x : Int) : Prop := ∀ P : Int → Prop, (∀ y, mf_dom c y → (∀ k, 0 ≤ k → k < mf_w (h y) → P (b y k)) → P y) → P x
theorem tfin_in {h : Int → Int} {b : Int → Int → Int} {x : Int} (hx : mf_dom c x) (hb : ∀ k, 0 ≤ k → k < mf_w (h x) → tfin c h b (b x k)) : tfin c h b x := fun P hP => hP x hx (fun k k0 k1 => hb k k0 k1 P hP)
theorem tf_lcmp_le {x y : Int} : (tf_lcmp x y ≤ 0 ↔ x ≤ y) ∧ (0 < tf_lcmp x y ↔ y < x) := by
  unfold tf_lcmp
  constructor <;> split <;> (try split) <;> constructor <;> intro _ <;> omega
set_option maxHeartbeats 2000000 in
theorem sp_104 (h : mtc n hd ch c G) (hv : ∀ y, mf_dom c y → G 57 y ≠ 0 → (1 ≤ G 58 y ∧ G 58 y ≤ 1000000000000) ∧ 0 ≤ G 59 y ∧ G 59 y ≤ 1000) {x : Int} (hx : mf_dom c x) :
    tf_RUN l 104 [tf_r 42, tf_i x] G (tf_PI fun r G' => (∀ k : Nat, k ≠ 58 → k ≠ 59 → G' k = G k) ∧ (∀ y, y ≠ x → G' 58 y = G 58 y ∧ G' 59 y = G 59 y) ∧
      ((r = 1 ∧ (∀ k, 0 ≤ k → k < mf_w (mH hd G x) → G 57 (mB ch G x k) ≠ 0) ∧ G' 58 x = mf_szs (G 58) (mB ch G x) (mf_w (mH hd G x)) ∧ G' 59 x = if mH hd G x = -1 then 0 else mf_dps (G 59) (mB ch G x) (mf_w (mH hd G x))) ∨
        (r = 0 ∧ ∃ k, 0 ≤ k ∧ k < mf_w (mH hd G x) ∧ G 57 (mB ch G x k) = 0))) := by
  have hw := mf_w_in (mH hd G x)
  have bx := h.b hx
  refine vcc_104 ?_
  generalize hPo : (tf_PI fun r G' => (∀ k : Nat, k ≠ 58 → k ≠ 59 → G' k = G k) ∧ (∀ y, y ≠ x → G' 58 y = G 58 y ∧ G' 59 y = G 59 y) ∧
      ((r = 1 ∧ (∀ k, 0 ≤ k → k < mf_w (mH hd G x) → G 57 (mB ch G x k) ≠ 0) ∧ G' 58 x = mf_szs (G 58) (mB ch G x) (mf_w (mH hd G x)) ∧ G' 59 x = if mH hd G x = -1 then 0 else mf_dps (G 59) (mB ch G x) (mf_w (mH hd G x))) ∨
        (r = 0 ∧ ∃ k, 0 ≤ k ∧ k < mf_w (mH hd G x) ∧ G 57 (mB ch G x k) = 0))) = Po
  -- the end
  have fin : ∀ (all cn d : Int), 0 ≤ d → d ≤ 1000 → ((all = 1 ∧ (∀ k, 0 ≤ k → k < mf_w (mH hd G x) → G 57 (mB ch G x k) ≠ 0) ∧ cn = mf_szs (G 58) (mB ch G x) (mf_w (mH hd G x)) ∧ d + 1 = mf_dps (G 59) (mB ch G x) (mf_w (mH hd G x))) ∨ (all = 0 ∧ ∃ k, 0 ≤ k ∧ k < mf_w (mH hd G x) ∧ G 57 (mB ch G x k) = 0)) →
      tf_AW l 104 none Po 136 [(0, tf_r 42), (1, tf_i x), (2, tf_i all), (5, tf_i d)] [] (none, false) (tf_up G 58 x cn) := by
    intro all cn d d0 d1 ha
    have hall : all = 0 ∨ all = 1 := by
      rcases ha with ha | ha
      · exact Or.inr ha.1
      · exact Or.inl ha.1
    have hk : mkp G (tf_up G 58 x cn) := mkp.refl.up (Or.inl (by decide))
    have hsp := sp_100 (l := l) (h.kp hk) hx
    rw [hk.H] at hsp
    refine vcc_104_136 (tf_re hsp ?_)
    rw [← hPo]
    have hg : ∀ dv, ((mH hd G x = -1 ∧ dv = 0) ∨ (mH hd G x ≠ -1 ∧ dv = d + 1)) → (tf_PI fun r G' => (∀ k : Nat, k ≠ 58 → k ≠ 59 → G' k = G k) ∧ (∀ y, y ≠ x → G' 58 y = G 58 y ∧ G' 59 y = G 59 y) ∧
      ((r = 1 ∧ (∀ k, 0 ≤ k → k < mf_w (mH hd G x) → G 57 (mB ch G x k) ≠ 0) ∧ G' 58 x = mf_szs (G 58) (mB ch G x) (mf_w (mH hd G x)) ∧ G' 59 x = if mH hd G x = -1 then 0 else mf_dps (G 59) (mB ch G x) (mf_w (mH hd G x))) ∨
        (r = 0 ∧ ∃ k, 0 ≤ k ∧ k < mf_w (mH hd G x) ∧ G 57 (mB ch G x k) = 0))) (.inl (some (tf_i all))) (tf_up (tf_up G 58 x cn) 59 x dv) := by
      intro dv hdv
      refine tf_pi ⟨fun k a b => by rw [tf_upo b, tf_upo a], fun y hy => ?_, ?_⟩
      · simp only [tf_upo, tf_upo', tf_up_eq, ne_eq, Nat.reduceEqDiff, not_false_eq_true, reduceCtorEq]
        rw [if_neg hy, if_neg hy]
        exact ⟨rfl, rfl⟩
      · rcases ha with ⟨a1, a2, a3, a4⟩ | ha
        · left
          refine ⟨a1, a2, ?_, ?_⟩
          · rw [tf_upo' (by decide), tf_up_at, a3]
          · rw [tf_up_at]
            rcases hdv with ⟨z1, z2⟩ | ⟨z1, z2⟩
            · rw [if_pos z1, z2]
            · rw [if_neg z1, z2, a4]
        · exact Or.inr ha
    by_cases hl : mH hd G x = -1
    · rw [if_pos hl]
      exact ⟨fun z => by omega, fun _ => ⟨bx, hall, hg 0 (Or.inl ⟨hl, rfl⟩)⟩⟩
    · rw [if_neg hl]
      exact ⟨fun _ => ⟨by omega, bx, hall, hg (d + 1) (Or.inr ⟨hl, rfl⟩)⟩, fun z => absurd rfl z⟩
  have key : ∀ (f : Nat) (k : Nat) (all cn d : Int), (k : Int) + f = mf_w (mH hd G x) → (1 ≤ cn ∧ cn ≤ 1 + k * 1000000000000) → (0 ≤ d ∧ d ≤ 1000) →
      ((all = 1 ∧ (∀ j, 0 ≤ j → j < (k : Int) → G 57 (mB ch G x j) ≠ 0) ∧ cn = 1 + mf_sum (fun j => G 58 (mB ch G x j)) k ∧ d = mf_max (fun j => G 59 (mB ch G x j)) k) ∨ (all = 0 ∧ ∃ j, 0 ≤ j ∧ j < (k : Int) ∧ G 57 (mB ch G x j) = 0)) →
      tf_AW l 104 none Po 10 [(0, tf_r 42), (1, tf_i x), (2, tf_i all), (3, tf_l cn), (5, tf_i d), (6, tf_i (k : Int))] [] (none, false) G := by
    intro f
    induction f with
    | zero =>
      intro k all cn d hk hcn hd' ha
      have ek : (mf_w (mH hd G x)).toNat = k := by omega
      have hfin : ∀ cv, (cv = if 1000000000000 < cn then 1000000000000 else cn) → tf_AW l 104 none Po 136 [(0, tf_r 42), (1, tf_i x), (2, tf_i all), (5, tf_i d)] [] (none, false) (tf_up G 58 x cv) := by
        intro cv hcv
        refine fin all cv d hd'.1 hd'.2 ?_
        rcases ha with ⟨a1, a2, a3, a4⟩ | ⟨a1, j, j0, j1, j2⟩
        · left
          refine ⟨a1, fun j j0 j1 => a2 j j0 (by omega), ?_, ?_⟩
          · rw [hcv, a3]; unfold mf_szs; rw [ek]
          · rw [a4]; unfold mf_dps; rw [ek]
        · exact Or.inr ⟨a1, j, j0, by omega, j2⟩
      refine vcc_104_10 (tf_re (sp_99 h hx) ⟨fun _ => ⟨fun z => ⟨bx, hfin _ ?_⟩, fun z => ⟨bx, hfin _ ?_⟩⟩, fun z => by omega⟩)
      · rw [tf_lcmp_le.1] at z; rw [if_neg (by omega)]
      · rw [tf_lcmp_le.2] at z; rw [if_pos z]
    | succ f ih =>
      intro k all cn d hk hcn hd' ha
      have k1 : (k : Int) < mf_w (mH hd G x) := by omega
      have dB := h.B hx (Int.natCast_nonneg k) k1
      have bB := h.b dB
      have ek : (k : Int) + 1 = ((k + 1 : Nat) : Int) := by omega
      have hk3 : (k : Int) * 1000000000000 ≤ 2 * 1000000000000 := Int.mul_le_mul_of_nonneg_right (by omega) (by omega)
      have e3 : ((k + 1 : Nat) : Int) * 1000000000000 = (k : Int) * 1000000000000 + 1000000000000 := by
        rw [← ek, Int.add_mul, Int.one_mul]
      -- from the flag on
      have go : ∀ all', ((G 57 (mB ch G x k) ≠ 0 ∧ all' = all) ∨ (G 57 (mB ch G x k) = 0 ∧ all' = 0)) → tf_AW l 104 none Po 49 [(0, tf_r 42), (1, tf_i x), (2, tf_i all'), (3, tf_l cn), (5, tf_i d), (6, tf_i (k : Int)), (7, tf_i (mB ch G x k))] [] (none, false) G := by
        intro all' ha'
        refine vcc_104_49 ⟨bB, fun z => ⟨by omega, vcc_104_73 ⟨bB, fun _ => vcc_104_109 ⟨by omega, ?_⟩, fun z' => absurd z z'⟩⟩, fun z => ?_⟩
        · rw [ek]
          refine ih (k + 1) all' (cn + 0) d (by omega) (by omega) hd' ?_
          rcases ha' with ⟨q, -⟩ | ⟨-, q⟩
          · exact absurd z q
          · exact Or.inr ⟨q, k, by omega, by omega, z⟩
        · obtain ⟨w1, w2, w3⟩ := hv _ dB z
          refine ⟨bB, by omega, vcc_104_73 ⟨bB, fun z' => absurd z' z, fun _ => ⟨bB, fun z2 => vcc_104_109 ⟨by omega, ?_⟩, fun z2 => ⟨bB, vcc_104_109 ⟨by omega, ?_⟩⟩⟩⟩⟩
          · rw [ek]
            refine ih (k + 1) all' _ d (by omega) (by omega) hd' ?_
            rcases ha' with ⟨-, q⟩ | ⟨q, -⟩
            · rw [q]
              rcases ha with ⟨a1, a2, a3, a4⟩ | ⟨a1, j, j0, j1, j2⟩
              · left
                refine ⟨a1, fun j j0 j1 => ?_, ?_, ?_⟩
                · by_cases e : j = k
                  · rw [e]; exact z
                  · exact a2 j j0 (by omega)
                · show _ = 1 + (mf_sum (fun j => G 58 (mB ch G x j)) k + G 58 (mB ch G x (k : Int)))
                  omega
                · show _ = if mf_max (fun j => G 59 (mB ch G x j)) k < G 59 (mB ch G x (k : Int)) then G 59 (mB ch G x (k : Int)) else mf_max (fun j => G 59 (mB ch G x j)) k
                  rw [← a4, if_neg (by omega)]
              · exact Or.inr ⟨a1, j, j0, by omega, j2⟩
            · exact absurd q z
          · rw [ek]
            refine ih (k + 1) all' _ _ (by omega) (by omega) ⟨w2, w3⟩ ?_
            rcases ha' with ⟨-, q⟩ | ⟨q, -⟩
            · rw [q]
              rcases ha with ⟨a1, a2, a3, a4⟩ | ⟨a1, j, j0, j1, j2⟩
              · left
                refine ⟨a1, fun j j0 j1 => ?_, ?_, ?_⟩
                · by_cases e : j = k
                  · rw [e]; exact z
                  · exact a2 j j0 (by omega)
                · show _ = 1 + (mf_sum (fun j => G 58 (mB ch G x j)) k + G 58 (mB ch G x (k : Int)))
                  omega
                · show _ = if mf_max (fun j => G 59 (mB ch G x j)) k < G 59 (mB ch G x (k : Int)) then G 59 (mB ch G x (k : Int)) else mf_max (fun j => G 59 (mB ch G x j)) k
                  rw [← a4, if_pos z2]
              · exact Or.inr ⟨a1, j, j0, by omega, j2⟩
            · exact absurd q z
      refine vcc_104_10 (tf_re (sp_99 h hx) ⟨fun z => by omega, fun _ => tf_re (sp_98 h hx (by omega) k1) ⟨fun z => ?_, fun z => ⟨bB, fun q => ?_, fun q => ?_⟩⟩⟩)
      · rw [z] at go
        by_cases q : G 57 (mB ch G x k) = 0
        · exact go 0 (Or.inr ⟨q, rfl⟩)
        · exact go 0 (Or.inl ⟨q, rfl⟩)
      · exact go 0 (Or.inr ⟨q, rfl⟩)
      · have e1 : all = 1 := by
          rcases ha with ha | ha
          · exact ha.1
          · exact absurd ha.1 z
        exact go 1 (Or.inl ⟨q, e1.symm⟩)
  exact key (mf_w (mH hd G x)).toNat 0 1 1 0 (by omega) (by omega) (by omega) (Or.inl ⟨rfl, fun j j0 j1 => by omega, rfl, rfl⟩)
end
