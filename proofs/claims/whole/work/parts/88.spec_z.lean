-- SPEC Z: the class: pairs
def xMet (G : tf_Sto) (p : Int) : Prop := b64 (G 37 (p / 64)) (p % 64).toNat = true
section
variable {l : Launch} {G : tf_Sto} {n c : Int}
theorem xMet_up {p q : Int} (hp : 0 ≤ p) (hq : 0 ≤ q) : xMet (tf_up G 37 (p / 64) (tf_lor (G 37 (p / 64)) (tf_lshl 1 (p % 64)))) q ↔ xMet G q ∨ q = p := by
  unfold xMet
  rw [tf_up_eq]
  by_cases e : q / 64 = p / 64
  · rw [if_pos e, bit_set64 (by omega) (by omega) (by omega), e, Bool.or_eq_true, decide_eq_true_eq]
    constructor
    · rintro (z | z)
      · exact Or.inl z
      · exact Or.inr (by omega)
    · rintro (z | z)
      · exact Or.inl z
      · exact Or.inr (by rw [z])
  · rw [if_neg e]
    constructor
    · intro z; exact Or.inl z
    · rintro (z | z)
      · exact z
      · exact absurd (by rw [z]) e
def xcm (p : Int) (G G' : tf_Sto) : Prop := (∀ k : Nat, k ≠ 35 → k ≠ 36 → k ≠ 37 → G' k = G k) ∧ (∀ j, j ≠ 0 → G' 35 j = G 35 j) ∧ (∀ q, 0 ≤ q → (xMet G' q ↔ xMet G q ∨ q = p)) ∧
  ((xMet G p ∧ G' 35 0 = G 35 0 ∧ G' 36 = G 36) ∨ (¬ xMet G p ∧ G' 35 0 = G 35 0 + 1 ∧ G' 36 (G 35 0) = p ∧ ∀ j, j ≠ G 35 0 → G' 36 j = G 36 j))
noncomputable def xN (G : tf_Sto) : Int := mf_cnt (fun q => xMet G q) mK
theorem xN_in : 0 ≤ xN G ∧ xN G ≤ 90000 := by
  have h := mf_cnt_in (fun q => xMet G q) mK
  rw [mK_int] at h
  exact h
theorem xN_congr {G' : tf_Sto} (h : ∀ q, 0 ≤ q → q < 90000 → (xMet G' q ↔ xMet G q)) : xN G' = xN G := mf_cnt_congr (fun t t0 t1 => h t t0 (by rw [mK_int] at t1; exact t1))
theorem xN_new {p : Int} (h0 : 0 ≤ p) (h1 : p < 90000) (hn : ¬ xMet G p) : xN G + 1 ≤ 90000 := by
  have hadd : mf_cnt (fun q => xMet G q ∨ q = p) mK = mf_cnt (fun q => xMet G q) mK + 1 := mf_cnt_add (P := fun q => xMet G q) (a := p) h0 (by rw [mK_int]; exact h1) hn (fun t _ _ => Iff.rfl)
  have h2 := (mf_cnt_in (fun q => xMet G q ∨ q = p) mK).2
  rw [mK_int, hadd] at h2
  exact h2
theorem xcm.num {p : Int} {G' : tf_Sto} (h : xcm p G G') (h0 : 0 ≤ p) (h1 : p < 90000) : (xMet G p ∧ xN G' = xN G ∧ G' 35 0 = G 35 0) ∨ (¬ xMet G p ∧ xN G' = xN G + 1 ∧ G' 35 0 = G 35 0 + 1) := by
  obtain ⟨-, -, a3, a4⟩ := h
  rcases a4 with ⟨b1, b2, -⟩ | ⟨b1, b2, -⟩
  · refine Or.inl ⟨b1, xN_congr (fun t t0 _ => ?_), b2⟩
    rw [a3 t t0]
    exact ⟨fun z => z.elim id (fun e => by rw [e]; exact b1), fun z => Or.inl z⟩
  · exact Or.inr ⟨b1, mf_cnt_add (P := fun q => xMet G q) (a := p) h0 (by rw [mK_int]; exact h1) b1 (fun t t0 _ => a3 t t0), b2⟩
theorem sp_70 {x y : Int} (hx : 0 ≤ x ∧ x < 300) (hy : 0 ≤ y ∧ y < 300) (hm : ¬ xMet G (300 * x + y) → 0 ≤ G 35 0 ∧ G 35 0 < 90000) : tf_RUN l 70 [tf_r 35, tf_i x, tf_i y] G (tf_PV (xcm (300 * x + y) G)) := by
  have ep : x * 300 + y = 300 * x + y := by omega
  have e6 := shr6 (p := 300 * x + y) (by omega) (by omega)
  have e63 := and63 (p := 300 * x + y) (by omega) (by omega)
  refine vc_70 ⟨by omega, by omega, ?_⟩
  rw [ep, e6, e63]
  have hb := bit_tst64 (w := G 37 ((300 * x + y) / 64)) (i := (300 * x + y) % 64) (by omega) (by omega)
  refine ⟨by omega, fun z => ?_, fun z => ?_⟩
  · have hn : xMet G (300 * x + y) := by
      unfold xMet
      cases hq : b64 (G 37 ((300 * x + y) / 64)) ((300 * x + y) % 64).toNat with
      | true => rfl
      | false => exact absurd (hb.mpr hq) z
    refine tf_pv ⟨fun _ _ _ _ => rfl, fun _ _ => rfl, fun q _ => ⟨fun w => Or.inl w, fun w => w.elim id (fun e => by rw [e]; exact hn)⟩, Or.inl ⟨hn, rfl, rfl⟩⟩
  · have hn : ¬ xMet G (300 * x + y) := by
      unfold xMet
      rw [hb.mp z]
      decide
    have hc := hm hn
    refine ⟨by omega, by omega, hc, by omega, tf_pv ⟨fun k a b d => ?_, fun j hj => ?_, fun q hq => ?_, Or.inr ⟨hn, tf_up_at, ?_, fun j hj => ?_⟩⟩⟩
    · rw [tf_upo a, tf_upo b, tf_upo d]
    · rw [tf_up_eq, if_neg hj, tf_upo' (by decide), tf_upo' (by decide)]
    · have := xMet_up (G := G) (p := 300 * x + y) (q := q) (by omega) hq
      unfold xMet at this ⊢
      simp only [tf_upo, tf_upo', tf_up_eq, ne_eq, Nat.reduceEqDiff, not_false_eq_true, reduceCtorEq]
      rw [tf_up_eq] at this
      exact this
    · rw [tf_upo' (by decide), tf_up_at]
    · rw [tf_upo' (by decide), tf_up_eq, if_neg hj, tf_upo' (by decide)]
def xP (c : Int) (h : Int → Int) (b : Int → Int → Int) (x y : Int) (G G1 : tf_Sto) : Prop := (∀ k : Nat, k ≠ 35 → k ≠ 36 → k ≠ 37 → G1 k = G k) ∧ G1 35 0 = xN G1 ∧
  (∀ q, 0 ≤ q → q < 90000 → xMet G1 q → mf_dom c (q / 300) ∧ mf_dom c (q % 300) ∧ tpr c h b x y (q / 300) (q % 300)) ∧ (∀ j, 0 ≤ j → j < G1 35 0 → (0 ≤ G1 36 j ∧ G1 36 j < 90000) ∧ xMet G1 (G1 36 j)) ∧
  (∀ i j, 0 ≤ i → i < G1 35 0 → 0 ≤ j → j < G1 35 0 → G1 36 i = G1 36 j → i = j) ∧ (∀ q, 0 ≤ q → q < 90000 → xMet G1 q → ∃ j, 0 ≤ j ∧ j < G1 35 0 ∧ G1 36 j = q) ∧ xMet G1 (300 * x + y)
/-- what was listed stays -/
def xPm (G1 G2 : tf_Sto) : Prop := (∀ q, 0 ≤ q → xMet G1 q → xMet G2 q) ∧ G1 35 0 ≤ G2 35 0 ∧ ∀ j, 0 ≤ j → j < G1 35 0 → G2 36 j = G1 36 j
theorem xPm.refl {G1 : tf_Sto} : xPm G1 G1 := ⟨fun _ _ h => h, Int.le_refl _, fun _ _ _ => rfl⟩
theorem xPm.trans {G1 G2 G3 : tf_Sto} (h : xPm G1 G2) (h' : xPm G2 G3) : xPm G1 G3 :=
  ⟨fun q q0 z => h'.1 q q0 (h.1 q q0 z), Int.le_trans h.2.1 h'.2.1, fun j j0 j1 => (h'.2.2 j j0 (by have := h.2.1; omega)).trans (h.2.2 j j0 j1)⟩
set_option maxHeartbeats 1000000 in
theorem xP_add {h : Int → Int} {b : Int → Int → Int} {x y : Int} {G1 G2 : tf_Sto} (hj : xP c h b x y G G1) {u v : Int} (hu : mf_dom c u) (hv : mf_dom c v) (hc : c ≤ 300) (ht : tpr c h b x y u v) (hx : 0 ≤ x) (hy : 0 ≤ y) (hcm : xcm (300 * u + v) G1 G2) : xP c h b x y G G2 ∧ xPm G1 G2 ∧ xMet G2 (300 * u + v) := by
  obtain ⟨j1, j2, j3, j4, j5, j6, j7⟩ := hj
  have u0 := hu.1; have u1 := hu.2; have v0 := hv.1; have v1 := hv.2
  have hnum := hcm.num (by omega) (by omega)
  obtain ⟨c1, c2, c3, c4⟩ := id hcm
  have d1 : (300 * u + v) / 300 = u := by omega
  have d2 : (300 * u + v) % 300 = v := by omega
  have hN := xN_in (G := G1)
  refine ⟨⟨fun k p q r => (c1 k p q r).trans (j1 k p q r), by omega, fun q q0 q1 q2 => ?_, fun j p q => ?_, fun i j i0 i1 q0 q1 => ?_, fun q q0 q1 q2 => ?_, (c3 _ (by omega)).mpr (Or.inl j7)⟩, ⟨fun q q0 z => (c3 q q0).mpr (Or.inl z), by omega, fun j p q => ?_⟩, (c3 _ (by omega)).mpr (Or.inr rfl)⟩
  · rcases (c3 q q0).mp q2 with r | r
    · exact j3 q q0 q1 r
    · rw [r, d1, d2]; exact ⟨hu, hv, ht⟩
  · rcases c4 with ⟨-, r1, r2⟩ | ⟨-, r1, r2, r3⟩
    · rw [r2]
      obtain ⟨w1, w2⟩ := j4 j p (by omega)
      exact ⟨w1, (c3 _ w1.1).mpr (Or.inl w2)⟩
    · by_cases ej : j = G1 35 0
      · rw [ej, r2]
        exact ⟨⟨by omega, by omega⟩, (c3 _ (by omega)).mpr (Or.inr rfl)⟩
      · rw [r3 j ej]
        obtain ⟨w1, w2⟩ := j4 j p (by omega)
        exact ⟨w1, (c3 _ w1.1).mpr (Or.inl w2)⟩
  · rcases c4 with ⟨-, r1, r2⟩ | ⟨r0, r1, r2, r3⟩
    · rw [r2]; exact j5 i j i0 (by omega) q0 (by omega)
    · by_cases ei : i = G1 35 0 <;> by_cases ej : j = G1 35 0
      · intro _; rw [ei, ej]
      · rw [ei, r2, r3 j ej]
        intro z
        rw [z] at r0
        exact absurd (j4 j q0 (by omega)).2 r0
      · rw [ej, r2, r3 i ei]
        intro z
        rw [← z] at r0
        exact absurd (j4 i i0 (by omega)).2 r0
      · rw [r3 i ei, r3 j ej]
        exact j5 i j i0 (by omega) q0 (by omega)
  · have old : xMet G1 q → ∃ j, 0 ≤ j ∧ j < G2 35 0 ∧ G2 36 j = q := by
      intro r
      obtain ⟨j, p0, p1, p2⟩ := j6 q q0 q1 r
      rcases c4 with ⟨-, r1, r2⟩ | ⟨-, r1, r2, r3⟩
      · exact ⟨j, p0, by omega, by rw [r2]; exact p2⟩
      · exact ⟨j, p0, by omega, by rw [r3 j (by omega)]; exact p2⟩
    rcases (c3 q q0).mp q2 with r | r
    · exact old r
    · rcases c4 with ⟨r0, r1, r2⟩ | ⟨-, r1, r2, r3⟩
      · exact old (by rw [r]; exact r0)
      · exact ⟨G1 35 0, by omega, by omega, by rw [r2, r]⟩
  · rcases c4 with ⟨-, r1, r2⟩ | ⟨-, r1, r2, r3⟩
    · rw [r2]
    · exact r3 j (by omega)
set_option maxHeartbeats 2000000 in
theorem sp_69 {x y : Int} {G1 : tf_Sto} (ht : xts c G) (hx : 0 ≤ x) (hy : 0 ≤ y) (hj : xP c (G 16) (xB G) x y G G1) {u v : Int} (hu : mf_dom c u) (hv : mf_dom c v) (htp : tpr c (G 16) (xB G) x y u v) (hlv : -2147483648 ≤ G1 35 1 + 1 ∧ G1 35 1 + 1 ≤ 2147483647) :
    tf_RUN l 69 [tf_r 35, tf_i u, tf_i v] G1 (tf_PV fun G2 => xP c (G 16) (xB G) x y G G2 ∧ xPm G1 G2 ∧ ((G 16 u ≠ -1 ∧ G 16 u = G 16 v ∧ G2 35 1 = G1 35 1 ∧ ∀ k, 0 ≤ k → k < mf_w (G 16 u) → xMet G2 (300 * xB G u k + xB G v k)) ∨ (¬ (G 16 u ≠ -1 ∧ G 16 u = G 16 v) ∧ G2 35 1 = G1 35 1 + 1))) := by
  have hc := ht.1
  have bu := ht.b hu
  have bv := ht.b hv
  have e16 := hj.1 16 (by decide) (by decide) (by decide)
  have leaf : ¬ (G 16 u ≠ -1 ∧ G 16 u = G 16 v) → (tf_PV fun G2 => xP c (G 16) (xB G) x y G G2 ∧ xPm G1 G2 ∧ ((G 16 u ≠ -1 ∧ G 16 u = G 16 v ∧ G2 35 1 = G1 35 1 ∧ ∀ k, 0 ≤ k → k < mf_w (G 16 u) → xMet G2 (300 * xB G u k + xB G v k)) ∨ (¬ (G 16 u ≠ -1 ∧ G 16 u = G 16 v) ∧ G2 35 1 = G1 35 1 + 1))) (.inl none) (tf_up G1 35 1 (G1 35 1 + 1)) := by
    intro hn
    have u0 : tf_up G1 35 1 (G1 35 1 + 1) 35 0 = G1 35 0 := by rw [tf_up_eq, if_neg (by decide)]
    have u36 : tf_up G1 35 1 (G1 35 1 + 1) 36 = G1 36 := tf_upo (by decide)
    have uM : ∀ q, xMet (tf_up G1 35 1 (G1 35 1 + 1)) q ↔ xMet G1 q := fun q => by unfold xMet; rw [tf_upo (by decide)]
    refine tf_pv ⟨?_, ⟨fun q _ z => (uM q).mpr z, by rw [u0]; exact Int.le_refl _, fun j _ _ => by rw [u36]⟩, Or.inr ⟨hn, tf_up_at⟩⟩
    obtain ⟨j1, j2, j3, j4, j5, j6, j7⟩ := hj
    unfold xP
    rw [u0, u36, xN_congr (G := G1) (fun q _ _ => uM q)]
    exact ⟨fun k p q r => by rw [tf_upo p]; exact j1 k p q r, j2, fun q q0 q1 z => j3 q q0 q1 ((uM q).mp z), fun j p q => ⟨(j4 j p q).1, (uM _).mpr (j4 j p q).2⟩, j5, fun q q0 q1 z => j6 q q0 q1 ((uM q).mp z), (uM _).mpr j7⟩
  refine vc_69 ⟨bu, fun q => ⟨hlv, leaf (fun z => z.1 (by rw [← e16]; exact q))⟩, fun q => ⟨bv, fun q2 => ?_, fun q2 => ⟨hlv, leaf (fun z => q2 (by rw [e16]; exact z.2))⟩⟩⟩
  rw [e16] at q q2
  have hsp := sp_24 (l := l) (G := G1) (a := G1 16 u) (by rw [e16]; exact ht.h hu)
  refine tf_re hsp ?_
  rw [e16]
  have hw := mf_w_in (G 16 u)
  have key : ∀ (d : Nat) (G2 : tf_Sto) (k : Int), 0 ≤ k → k + d = mf_w (G 16 u) → xP c (G 16) (xB G) x y G G2 → xPm G1 G2 → G2 35 1 = G1 35 1 → (∀ j, 0 ≤ j → j < k → xMet G2 (300 * xB G u j + xB G v j)) →
      tf_AW l 69 none (tf_PV fun G2 => xP c (G 16) (xB G) x y G G2 ∧ xPm G1 G2 ∧ ((G 16 u ≠ -1 ∧ G 16 u = G 16 v ∧ G2 35 1 = G1 35 1 ∧ ∀ k, 0 ≤ k → k < mf_w (G 16 u) → xMet G2 (300 * xB G u k + xB G v k)) ∨ (¬ (G 16 u ≠ -1 ∧ G 16 u = G 16 v) ∧ G2 35 1 = G1 35 1 + 1))) 48 [(0, tf_r 35), (1, tf_i u), (2, tf_i v), (4, tf_i (mf_w (G 16 u))), (5, tf_i k)] [] (none, false) G2 := by
    intro d
    induction d with
    | zero =>
      intro G2 k k0 k1 y1 y2 y3 y4
      exact vc_69_48 ⟨fun _ => tf_pv ⟨y1, y2, Or.inl ⟨q, q2, y3, fun j j0 j1 => y4 j j0 (by omega)⟩⟩, fun z => by omega⟩
    | succ d ih =>
      intro G2 k k0 k1 y1 y2 y3 y4
      have e20 := y1.1 20 (by decide) (by decide) (by decide)
      have hspa := sp_43 (l := l) (G := G2) bu (k := k) (by omega)
      have hspp := sp_43 (l := l) (G := G2) bv (k := k) (by omega)
      rw [e20] at hspa hspp
      have d1 : mf_dom c (xB G u k) := (ht.2 u hu).2 k k0 (by omega)
      have d2 : mf_dom c (xB G v k) := (ht.2 v hv).2 k k0 (by rw [← q2]; omega)
      have b1 := ht.b d1
      have b2 := ht.b d2
      have hN := xN_in (G := G2)
      have hcnt := y1.2.1
      refine vc_69_48 ⟨fun z => by omega, fun _ => tf_re hspa (tf_re hspp (tf_rv (sp_70 b1 b2 (fun hn => ?_)) ?_))⟩
      · have := xN_new (G := G2) (p := 300 * xB G u k + xB G v k) (by omega) (by omega) hn
        omega
      · intro G3 hcm
        obtain ⟨z1, z2, z3⟩ := xP_add y1 d1 d2 hc.2 (fun P s1 s2 => s2 _ _ hu hv (htp P s1 s2) q q2 k k0 (by omega)) hx hy hcm
        refine ⟨by omega, ih G3 _ (by omega) (by omega) z1 (y2.trans z2) (by rw [hcm.2.1 1 (by decide)]; exact y3) (fun j j0 j1 => ?_)⟩
        by_cases e : j = k
        · rw [e]; exact z3
        · have w1 := ((ht.2 u hu).2 j j0 (by omega)).1
          have w2 := ((ht.2 v hv).2 j j0 (by rw [← q2]; omega)).1
          exact z2.1 _ (by omega) (y4 j j0 (by omega))
  exact key (mf_w (G 16 u)).toNat G1 0 (by omega) (by omega) hj xPm.refl rfl (fun j j0 j1 => by omega)
set_option maxHeartbeats 2000000 in
theorem sp_68 {x y : Int} (ht : xts c G) (hx : mf_dom c x) (hy : mf_dom c y) : tf_RUN l 68 [tf_r 35, tf_i x, tf_i y] G (tf_PV fun G' => (∀ k : Nat, k ≠ 35 → k ≠ 36 → k ≠ 37 → G' k = G k) ∧ G' 35 0 = tcom c (G 16) (xB G) x y 0 ∧ G' 35 1 = tcom c (G 16) (xB G) x y 1) := by
  have hc := ht.1
  have bx := ht.b hx
  have by' := ht.b hy
  refine vc_68 (tf_rv sp_fJ37 ?_)
  rintro G0 ⟨f1, f2⟩
  have u0 : tf_up (tf_up G0 35 0 0) 35 1 0 35 0 = 0 := by rw [tf_up_eq, if_neg (by decide), tf_up_at]
  have u1 : tf_up (tf_up G0 35 0 0) 35 1 0 35 1 = 0 := tf_up_at
  have u37 : ∀ j, 0 ≤ j → j < 1407 → tf_up (tf_up G0 35 0 0) 35 1 0 37 j = 0 := fun j j0 j1 => by rw [tf_upo (by decide), tf_upo (by decide)]; exact f2 j j0 j1
  have uo : ∀ k : Nat, k ≠ 35 → k ≠ 37 → tf_up (tf_up G0 35 0 0) 35 1 0 k = G k := fun k a b => by rw [tf_upo a, tf_upo a]; exact f1 k b
  generalize tf_up (tf_up G0 35 0 0) 35 1 0 = Ga at *
  have hno : ∀ q, 0 ≤ q → q < 90000 → ¬ xMet Ga q := by
    intro q q0 q1
    unfold xMet
    rw [u37 _ (by omega) (by omega), b64_0]
    decide
  refine tf_rv (sp_70 bx by' (fun _ => by rw [u0]; omega)) ?_
  intro G1 hcm
  have hn0 := hno (300 * x + y) (by omega) (by omega)
  obtain ⟨c1, c2, c3, c4⟩ := id hcm
  have hM1 : ∀ q, 0 ≤ q → q < 90000 → (xMet G1 q ↔ q = 300 * x + y) := fun q q0 q1 => by
    rw [c3 q q0]
    exact ⟨fun z => z.resolve_left (hno q q0 q1), fun z => Or.inr z⟩
  have hN1 : xN G1 = 1 := by
    have h2 := mf_cnt_one (n := mK) (a := 300 * x + y) (by omega) (by rw [mK_int]; omega)
    rw [← h2]
    exact mf_cnt_congr (fun t t0 t1 => hM1 t t0 (by rw [mK_int] at t1; exact t1))
  obtain ⟨r1, r2⟩ : G1 35 0 = 1 ∧ G1 36 0 = 300 * x + y := by
    rcases c4 with c4 | ⟨-, r1, r2, -⟩
    · exact absurd c4.1 hn0
    · rw [u0] at r1 r2
      exact ⟨by omega, r2⟩
  have d1 : (300 * x + y) / 300 = x := by omega
  have d2 : (300 * x + y) % 300 = y := by omega
  have hP1 : xP c (G 16) (xB G) x y G G1 := by
    refine ⟨fun k p q r => (c1 k p q r).trans (uo k p r), by omega, fun q q0 q1 q2 => ?_, fun j j0 j1 => ?_, fun i j i0 i1 j0 j1 _ => by omega, fun q q0 q1 q2 => ⟨0, by omega, by omega, by rw [r2, (hM1 q q0 q1).mp q2]⟩, (hM1 _ (by omega) (by omega)).mpr rfl⟩
    · rw [(hM1 q q0 q1).mp q2, d1, d2]
      exact ⟨hx, hy, fun P s1 _ => s1⟩
    · have : j = 0 := by omega
      rw [this, r2]
      exact ⟨⟨by omega, by omega⟩, (hM1 _ (by omega) (by omega)).mpr rfl⟩
  have key : ∀ (d : Nat) (G2 : tf_Sto) (v : Int), 0 ≤ v → v + d = 90001 → xP c (G 16) (xB G) x y G G2 → G2 35 1 = mf_cnt (fun q => ¬ tal (G 16) q ∧ ∃ j, 0 ≤ j ∧ j < v ∧ j < G2 35 0 ∧ G2 36 j = q) mK → (∀ j, 0 ≤ j → j < v → j < G2 35 0 → tal (G 16) (G2 36 j) → ∀ k, 0 ≤ k → k < mf_w (G 16 (G2 36 j / 300)) → xMet G2 (300 * xB G (G2 36 j / 300) k + xB G (G2 36 j % 300) k)) →
      tf_AW l 68 none (tf_PV fun G' => (∀ k : Nat, k ≠ 35 → k ≠ 36 → k ≠ 37 → G' k = G k) ∧ G' 35 0 = tcom c (G 16) (xB G) x y 0 ∧ G' 35 1 = tcom c (G 16) (xB G) x y 1) 26 [(0, tf_r 35), (3, tf_i v)] [] (none, false) G2 := by
    intro d
    have fin : ∀ (G2 : tf_Sto) (v : Int), G2 35 0 ≤ v → xP c (G 16) (xB G) x y G G2 → G2 35 1 = mf_cnt (fun q => ¬ tal (G 16) q ∧ ∃ j, 0 ≤ j ∧ j < v ∧ j < G2 35 0 ∧ G2 36 j = q) mK → (∀ j, 0 ≤ j → j < v → j < G2 35 0 → tal (G 16) (G2 36 j) → ∀ k, 0 ≤ k → k < mf_w (G 16 (G2 36 j / 300)) → xMet G2 (300 * xB G (G2 36 j / 300) k + xB G (G2 36 j % 300) k)) →
        (tf_PV fun G' => (∀ k : Nat, k ≠ 35 → k ≠ 36 → k ≠ 37 → G' k = G k) ∧ G' 35 0 = tcom c (G 16) (xB G) x y 0 ∧ G' 35 1 = tcom c (G 16) (xB G) x y 1) (.inl none) G2 := by
      intro G2 v hv hP hlv hcl
      obtain ⟨j1, j2, j3, j4, j5, j6, j7⟩ := hP
      have hiff : ∀ q, 0 ≤ q → q < 90000 → (xMet G2 q ↔ tpr c (G 16) (xB G) x y (q / 300) (q % 300)) := by
        intro q q0 q1
        refine ⟨fun z => (j3 q q0 q1 z).2.2, fun z => ?_⟩
        have hz2 := z (fun a e => mf_dom c a ∧ mf_dom c e ∧ xMet G2 (300 * a + e)) ⟨hx, hy, j7⟩ (fun a e da de p hl he k k0 k1 => ?_)
        · have : 300 * (q / 300) + q % 300 = q := by omega
          rw [this] at hz2
          exact hz2.2.2
        · obtain ⟨-, -, p3⟩ := p
          have b1 := ht.b da; have b2 := ht.b de
          have d1 : (300 * a + e) / 300 = a := by omega
          have d2 : (300 * a + e) % 300 = e := by omega
          obtain ⟨j, p0, p1, p2⟩ := j6 (300 * a + e) (by omega) (by omega) p3
          have r := hcl j p0 (by omega) p1
          unfold tal at r
          rw [p2, d1, d2] at r
          exact ⟨(ht.2 a da).2 k k0 k1, (ht.2 e de).2 k k0 (by rw [← he]; exact k1), r ⟨hl, he⟩ k k0 k1⟩
      refine tf_pv ⟨j1, ?_, ?_⟩
      · unfold tcom
        rw [if_pos rfl, j2]
        exact mf_cnt_congr (fun t t0 t1 => hiff t t0 (by rw [mK_int] at t1; exact t1))
      · unfold tcom
        rw [if_neg (by decide), hlv]
        refine mf_cnt_congr (fun t t0 t1 => ?_)
        rw [← hiff t t0 (by rw [mK_int] at t1; exact t1)]
        constructor
        · rintro ⟨z1, j, p0, p1, p2, p3⟩
          exact ⟨by rw [← p3]; exact (j4 j p0 p2).2, z1⟩
        · rintro ⟨z1, z2⟩
          obtain ⟨j, p0, p1, p2⟩ := j6 t t0 (by rw [mK_int] at t1; exact t1) z1
          exact ⟨z2, j, p0, by omega, p1, p2⟩
    induction d with
    | zero =>
      intro G2 v v0 v1 hP hlv hcl
      have h1 := hP.2.1
      have h2 := xN_in (G := G2)
      exact vc_68_26 ⟨fun z => fin G2 v z hP hlv hcl, fun z => by omega⟩
    | succ d ih =>
      intro G2 v v0 v1 hP hlv hcl
      have h1 := hP.2.1
      have h2 := xN_in (G := G2)
      have hlb := mf_cnt_in (fun q => ¬ tal (G 16) q ∧ ∃ j, 0 ≤ j ∧ j < v ∧ j < G2 35 0 ∧ G2 36 j = q) mK
      rw [mK_int, ← hlv] at hlb
      refine vc_68_26 ⟨fun z => fin G2 v z hP hlv hcl, fun z => ⟨fun z' => by omega, fun z' => ?_⟩⟩
      obtain ⟨j1, j2, j3, j4, j5, j6, j7⟩ := id hP
      obtain ⟨w1, w2⟩ := j4 v v0 z
      obtain ⟨da, dd, htp⟩ := j3 _ w1.1 w1.2 w2
      refine ⟨by omega, by omega, by omega, by omega, tf_rv (sp_69 ht hx.1 hy.1 hP da dd htp (by omega)) ?_⟩
      rintro G3 ⟨b1, b2, b3⟩
      have hsame : ∀ j, 0 ≤ j → j < v + 1 → G3 36 j = G2 36 j := fun j p0 p1 => b2.2.2 j p0 (by omega)
      have hle := b2.2.1
      refine ⟨by omega, ih G3 _ (by omega) (by omega) b1 ?_ (fun j p0 p1 p2 ht' k k0 k1 => ?_)⟩
      · rcases b3 with ⟨q1, q2, q3, -⟩ | ⟨q1, q3⟩
        · rw [q3, hlv]
          refine mf_cnt_congr (fun t _ _ => ⟨fun r => ?_, fun r => ?_⟩)
          · obtain ⟨r1, j, p0, p1, p2, p3⟩ := r
            exact ⟨r1, j, p0, by omega, by omega, by rw [hsame j p0 (by omega)]; exact p3⟩
          · obtain ⟨r1, j, p0, p1, p2, p3⟩ := r
            rw [hsame j p0 p1] at p3
            have : j ≠ v := fun e => by rw [e] at p3; rw [← p3] at r1; exact r1 ⟨q1, q2⟩
            exact ⟨r1, j, p0, by omega, by omega, p3⟩
        · rw [q3, hlv]
          refine (mf_cnt_add (a := G2 36 v) w1.1 (by rw [mK_int]; exact w1.2) ?_ (fun t _ _ => ⟨fun r => ?_, fun r => ?_⟩)).symm
          · rintro ⟨-, j, p0, p1, p2, p3⟩
            have := j5 j v p0 p2 v0 z p3
            omega
          · obtain ⟨r1, j, p0, p1, p2, p3⟩ := r
            rw [hsame j p0 p1] at p3
            by_cases e : j = v
            · exact Or.inr (by rw [← p3, e])
            · exact Or.inl ⟨r1, j, p0, by omega, by omega, p3⟩
          · rcases r with ⟨r1, j, p0, p1, p2, p3⟩ | r
            · exact ⟨r1, j, p0, by omega, by omega, by rw [hsame j p0 (by omega)]; exact p3⟩
            · exact ⟨by rw [r]; exact q1, v, v0, by omega, by omega, by rw [hsame v v0 (by omega)]; exact r.symm⟩
      · rw [hsame j p0 p1] at ht' k1 ⊢
        by_cases e : j = v
        · subst e
          rcases b3 with ⟨q1, q2, -, q4⟩ | ⟨q1, -⟩
          · exact q4 k k0 k1
          · exact absurd ht' q1
        · obtain ⟨s1, s2⟩ := j4 j p0 (by omega)
          obtain ⟨da', dd', -⟩ := j3 _ s1.1 s1.2 s2
          have w3 := ((ht.2 _ da').2 k k0 k1).1
          have w4 := ((ht.2 _ dd').2 k k0 (by rw [← ht'.2]; exact k1)).1
          exact b2.1 _ (by omega) (hcl j p0 (by omega) (by omega) ht' k k0 k1)
  have h1z : G1 35 1 = 0 := by rw [c2 1 (by decide)]; exact u1
  refine key 90001 G1 0 (by omega) (by omega) hP1 ?_ (fun j p0 p1 => by omega)
  rw [h1z]
  refine (mf_cnt_none (fun t _ _ r => ?_)).symm
  obtain ⟨-, j, p0, p1, -⟩ := r
  omega
end
