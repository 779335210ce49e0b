-- SPEC Z: the class: pairs, a bit each
def xbt (f : Int → Int) (a d : Int) : Prop := b64 (f (a * 5 + d / 64)) (d % 64).toNat = true
abbrev xMet (G : tf_Sto) (a d : Int) : Prop := xbt (G 37) a d
abbrev xOpn (G : tf_Sto) (a d : Int) : Prop := xbt (G 68) a d
abbrev xR (a d : Int) : Prop := (0 ≤ a ∧ a < 300) ∧ 0 ≤ d ∧ d < 320
theorem mR_ex : ∃ k : Nat, k = 300 := ⟨300, rfl⟩
noncomputable def mR : Nat := Classical.choose mR_ex
theorem mR_eq : mR = 300 := Classical.choose_spec mR_ex
theorem mR_int : (mR : Int) = 300 := by rw [mR_eq]; rfl
section
variable {l : Launch} {G : tf_Sto} {n c : Int}
theorem xbt_up {k : Nat} {u v a d : Int} (hv : 0 ≤ v ∧ v < 320) (hd : 0 ≤ d ∧ d < 320) : xbt (tf_up G k (u * 5 + v / 64) (tf_lor (G k (u * 5 + v / 64)) (tf_lshl 1 (v % 64))) k) a d ↔ xbt (G k) a d ∨ (a = u ∧ d = v) := by
  unfold xbt
  rw [tf_up_eq]
  by_cases e : a * 5 + d / 64 = u * 5 + v / 64
  · rw [if_pos e, bit_set64 (by omega) (by omega) (by omega), e, Bool.or_eq_true, decide_eq_true_eq]
    constructor
    · rintro (z | z)
      · exact Or.inl z
      · exact Or.inr (by omega)
    · rintro (z | z)
      · exact Or.inl z
      · exact Or.inr (by rw [z.2])
  · rw [if_neg e]
    constructor
    · intro z; exact Or.inl z
    · rintro (z | z)
      · exact z
      · exact absurd (by rw [z.1, z.2]) e
theorem xbt_0 {k : Nat} {u w a d : Int} (hw : 0 ≤ w ∧ w < 5) (hd : 0 ≤ d ∧ d < 320) : xbt (tf_up G k (u * 5 + w) 0 k) a d ↔ xbt (G k) a d ∧ ¬ (a = u ∧ d / 64 = w) := by
  unfold xbt
  rw [tf_up_eq]
  by_cases e : a * 5 + d / 64 = u * 5 + w
  · rw [if_pos e, b64_0]
    exact ⟨fun z => absurd z (by decide), fun z => absurd ⟨by omega, by omega⟩ z.2⟩
  · rw [if_neg e]
    exact ⟨fun z => ⟨z, fun q => e (by rw [q.1, q.2])⟩, fun z => z.1⟩
theorem lcmp0 {v : Int} : tf_lcmp v 0 = 0 ↔ v = 0 := lcmp_0
def xcm (u v : Int) (G G' : tf_Sto) : Prop := (∀ k : Nat, k ≠ 35 → k ≠ 36 → k ≠ 37 → k ≠ 68 → k ≠ 69 → G' k = G k) ∧ G' 35 1 = G 35 1 ∧ (∀ a d, 0 ≤ d → d < 320 → (xMet G' a d ↔ xMet G a d ∨ (a = u ∧ d = v))) ∧
  ((xMet G u v ∧ G' = G) ∨ (¬ xMet G u v ∧ G' 35 0 = G 35 0 + 1 ∧ (∀ a d, 0 ≤ d → d < 320 → (xOpn G' a d ↔ xOpn G a d ∨ (a = u ∧ d = v))) ∧
    ((G 69 u ≠ 0 ∧ G' 35 7 = G 35 7 ∧ G' 36 = G 36 ∧ G' 69 = G 69) ∨ (G 69 u = 0 ∧ G' 35 7 = G 35 7 + 1 ∧ G' 36 (G 35 7) = u ∧ (∀ j, j ≠ G 35 7 → G' 36 j = G 36 j) ∧ G' 69 u = 1 ∧ ∀ r, r ≠ u → G' 69 r = G 69 r))))
noncomputable def xN (G : tf_Sto) : Int := mf_cnt (fun q => xMet G (q / 300) (q % 300)) mK
theorem xN_in : 0 ≤ xN G ∧ xN G ≤ 90000 := by
  have h := mf_cnt_in (fun q => xMet G (q / 300) (q % 300)) mK
  rw [mK_int] at h
  exact h
theorem xN_congr {G' : tf_Sto} (h : ∀ a d, xR a d → (xMet G' a d ↔ xMet G a d)) : xN G' = xN G := mf_cnt_congr (fun t t0 t1 => h (t / 300) (t % 300) (by rw [mK_int] at t1; omega))
theorem xN_add {G' : tf_Sto} {u v : Int} (hu : 0 ≤ u ∧ u < 300) (hv : 0 ≤ v ∧ v < 300) (hn : ¬ xMet G u v) (h : ∀ a d, 0 ≤ d → d < 320 → (xMet G' a d ↔ xMet G a d ∨ (a = u ∧ d = v))) : xN G' = xN G + 1 := by
  have e1 : (300 * u + v) / 300 = u := by omega
  have e2 : (300 * u + v) % 300 = v := by omega
  refine mf_cnt_add (a := 300 * u + v) (by omega) (by rw [mK_int]; omega) ?_ (fun t t0 t1 => ?_)
  · rw [e1, e2]; exact hn
  · rw [h (t / 300) (t % 300) (by omega) (by omega)]
    constructor
    · rintro (z | z)
      · exact Or.inl z
      · exact Or.inr (by omega)
    · rintro (z | z)
      · exact Or.inl z
      · rw [z, e1, e2]; exact Or.inr ⟨rfl, rfl⟩
theorem sp_70 {x y : Int} (hx : 0 ≤ x ∧ x < 300) (hy : 0 ≤ y ∧ y < 300) (hm : ¬ xMet G x y → (0 ≤ G 35 0 ∧ G 35 0 < 90000) ∧ (G 69 x = 0 → 0 ≤ G 35 7 ∧ G 35 7 < 300)) : tf_RUN l 70 [tf_r 35, tf_i x, tf_i y] G (tf_PV (xcm x y G)) := by
  have hb := bit_tst64 (w := G 37 (x * 5 + y / 64)) (i := y % 64) (by omega) (by omega)
  refine vc_70 ⟨by omega, by omega, by omega, by omega, by omega, fun z => ?_, fun z => ?_⟩
  · have hn : ¬ xMet G x y := by
      unfold xMet xbt
      rw [hb.mp z]
      decide
    obtain ⟨hc, hw⟩ := hm hn
    refine ⟨by omega, by omega, by omega, by omega, by omega, hx, fun q => tf_pv ⟨fun k k1 k2 k3 k4 k5 => ?_, ?_, fun a d d0 d1 => ?_, Or.inr ⟨hn, tf_up_at, fun a d d0 d1 => ?_, Or.inl ⟨q, ?_, ?_, ?_⟩⟩⟩, fun q => ⟨hx, by omega, hw q, by have := hw q; omega, tf_pv ⟨fun k k1 k2 k3 k4 k5 => ?_, ?_, fun a d d0 d1 => ?_, Or.inr ⟨hn, ?_, fun a d d0 d1 => ?_, Or.inr ⟨q, tf_up_at, ?_, fun j hj => ?_, ?_, fun r hr => ?_⟩⟩⟩⟩⟩
    · rw [tf_upo k1, tf_upo k4, tf_upo k3]
    · rw [tf_up_eq, if_neg (by decide), tf_upo' (by decide), tf_upo' (by decide)]
    · rw [← xbt_up (G := G) (k := 37) (u := x) (v := y) (by omega) ⟨d0, d1⟩, xMet, tf_upo (by decide), tf_upo (by decide)]
    · rw [← xbt_up (G := G) (k := 68) (u := x) (v := y) (by omega) ⟨d0, d1⟩, xOpn, tf_upo (by decide)]
      unfold xbt
      rw [tf_up_eq, tf_up_eq, tf_upo' (by decide)]
    · rw [tf_up_eq, if_neg (by decide), tf_upo' (by decide), tf_upo' (by decide)]
    · rw [tf_upo (by decide), tf_upo (by decide), tf_upo (by decide)]
    · rw [tf_upo (by decide), tf_upo (by decide), tf_upo (by decide)]
    · rw [tf_upo k1, tf_upo k2, tf_upo k5, tf_upo k1, tf_upo k4, tf_upo k3]
    · simp only [tf_upo, tf_upo', tf_up_eq, ne_eq, Nat.reduceEqDiff, not_false_eq_true, reduceCtorEq]
      rw [if_neg (by decide), if_neg (by decide)]
    · rw [← xbt_up (G := G) (k := 37) (u := x) (v := y) (by omega) ⟨d0, d1⟩, xMet, tf_upo (by decide), tf_upo (by decide), tf_upo (by decide), tf_upo (by decide), tf_upo (by decide)]
    · simp only [tf_upo, tf_upo', tf_up_eq, ne_eq, Nat.reduceEqDiff, not_false_eq_true, reduceCtorEq]
      rw [if_neg (by decide), if_pos trivial]
    · rw [← xbt_up (G := G) (k := 68) (u := x) (v := y) (by omega) ⟨d0, d1⟩, xOpn, tf_upo (by decide), tf_upo (by decide), tf_upo (by decide), tf_upo (by decide)]
      unfold xbt
      rw [tf_up_eq, tf_up_eq, tf_upo' (by decide)]
    · rw [tf_upo' (by decide), tf_up_at]
    · rw [tf_upo' (by decide), tf_up_eq, if_neg hj, tf_upo' (by decide), tf_upo' (by decide), tf_upo' (by decide), tf_upo' (by decide)]
    · rw [tf_upo' (by decide), tf_upo' (by decide), tf_up_at]
    · rw [tf_upo' (by decide), tf_upo' (by decide), tf_up_eq, if_neg hr, tf_upo' (by decide), tf_upo' (by decide), tf_upo' (by decide)]
  · have hn : xMet G x y := by
      unfold xMet xbt
      cases hq : b64 (G 37 (x * 5 + y / 64)) (y % 64).toNat with
      | true => rfl
      | false => exact absurd (hb.mpr hq) z
    exact tf_pv ⟨fun _ _ _ _ _ _ => rfl, rfl, fun a d _ _ => ⟨fun w => Or.inl w, fun w => w.elim id (fun e => by rw [e.1, e.2]; exact hn)⟩, Or.inl ⟨hn, rfl⟩⟩
/-- the rows that wait -/
def xQ (G : tf_Sto) : Prop := G 35 7 = mf_cnt (fun r => G 69 r ≠ 0) mR ∧ (∀ i, 0 ≤ i → i < G 35 7 → (0 ≤ G 36 i ∧ G 36 i < 300) ∧ G 69 (G 36 i) ≠ 0) ∧ (∀ i j, 0 ≤ i → i < G 35 7 → 0 ≤ j → j < G 35 7 → G 36 i = G 36 j → i = j) ∧ ∀ r, 0 ≤ r → r < 300 → G 69 r ≠ 0 → ∃ i, 0 ≤ i ∧ i < G 35 7 ∧ G 36 i = r
theorem xQ.in (h : xQ G) : 0 ≤ G 35 7 ∧ G 35 7 ≤ 300 := by
  have := mf_cnt_in (fun r => G 69 r ≠ 0) mR
  rw [mR_int, ← h.1] at this
  exact this
theorem xQ.lt (h : xQ G) {u : Int} (hu : 0 ≤ u ∧ u < 300) (h0 : G 69 u = 0) : 0 ≤ G 35 7 ∧ G 35 7 < 300 := by
  have h1 := mf_cnt_add (P := fun r => G 69 r ≠ 0) (Q := fun r => G 69 r ≠ 0 ∨ r = u) (n := mR) (a := u) hu.1 (by rw [mR_int]; exact hu.2) (fun z => z h0) (fun t _ _ => Iff.rfl)
  have h2 := (mf_cnt_in (fun r => G 69 r ≠ 0 ∨ r = u) mR).2
  rw [mR_int, h1, ← h.1] at h2
  have := h.in
  omega
def xP (c : Int) (h : Int → Int) (b : Int → Int → Int) (x y : Int) (G : tf_Sto) (E : Int → Int → Prop) (G1 : tf_Sto) : Prop := (∀ k : Nat, k ≠ 35 → k ≠ 36 → k ≠ 37 → k ≠ 68 → k ≠ 69 → G1 k = G k) ∧ G1 35 0 = xN G1 ∧
  (∀ a d, xR a d → xMet G1 a d → mf_dom c a ∧ mf_dom c d ∧ tpr c h b x y a d) ∧ (∀ a d, xR a d → xOpn G1 a d → xMet G1 a d ∧ ¬ E a d) ∧ (∀ a d, xR a d → E a d → xMet G1 a d) ∧ xMet G1 x y ∧ xQ G1
/-- what was met stays -/
def xPm (G1 G2 : tf_Sto) : Prop := (∀ a d, xR a d → xMet G1 a d → xMet G2 a d) ∧ (∀ a d, xR a d → (xMet G2 a d ∧ ¬ xOpn G2 a d ↔ xMet G1 a d ∧ ¬ xOpn G1 a d)) ∧ (∀ a d, xR a d → xOpn G2 a d → xOpn G1 a d ∨ G2 69 a ≠ 0) ∧
  (∀ r, 0 ≤ r → r < 300 → G1 69 r ≠ 0 → G2 69 r ≠ 0) ∧ G2 35 7 - G2 35 0 ≤ G1 35 7 - G1 35 0
theorem xPm.refl {G1 : tf_Sto} : xPm G1 G1 := ⟨fun _ _ _ h => h, fun _ _ _ => Iff.rfl, fun _ _ _ h => Or.inl h, fun _ _ _ h => h, Int.le_refl _⟩
theorem xPm.trans {G1 G2 G3 : tf_Sto} (h : xPm G1 G2) (h' : xPm G2 G3) : xPm G1 G3 := by
  refine ⟨fun a d r z => h'.1 a d r (h.1 a d r z), fun a d r => (h'.2.1 a d r).trans (h.2.1 a d r), fun a d r z => ?_, fun r r0 r1 z => h'.2.2.2.1 r r0 r1 (h.2.2.2.1 r r0 r1 z), Int.le_trans h'.2.2.2.2 h.2.2.2.2⟩
  rcases h'.2.2.1 a d r z with q | q
  · rcases h.2.2.1 a d r q with q | q
    · exact Or.inl q
    · exact Or.inr (h'.2.2.2.1 a r.1.1 r.1.2 q)
  · exact Or.inr q
theorem xQ_add {G1 G2 : tf_Sto} {u v : Int} (hu : 0 ≤ u ∧ u < 300) (hq : xQ G1) (hc : (G1 69 u ≠ 0 ∧ G2 35 7 = G1 35 7 ∧ G2 36 = G1 36 ∧ G2 69 = G1 69) ∨ (G1 69 u = 0 ∧ G2 35 7 = G1 35 7 + 1 ∧ G2 36 (G1 35 7) = u ∧ (∀ j, j ≠ G1 35 7 → G2 36 j = G1 36 j) ∧ G2 69 u = 1 ∧ ∀ r, r ≠ u → G2 69 r = G1 69 r)) :
    xQ G2 ∧ (∀ r, 0 ≤ r → r < 300 → G1 69 r ≠ 0 → G2 69 r ≠ 0) ∧ G2 69 u ≠ 0 ∧ G2 35 7 ≤ G1 35 7 + 1 := by
  have hin := hq.in
  obtain ⟨q1, q2, q3, q4⟩ := hq
  rcases hc with ⟨c1, c2, c3, c4⟩ | ⟨c1, c2, c3, c4, c5, c6⟩
  · refine ⟨?_, fun r _ _ z => by rw [c4]; exact z, by rw [c4]; exact c1, by omega⟩
    unfold xQ
    rw [c2, c3, c4]
    exact ⟨q1, q2, q3, q4⟩
  · have hn : ∀ i, 0 ≤ i → i < G1 35 7 → G1 36 i ≠ u := fun i i0 i1 z => by
      have := (q2 i i0 i1).2
      rw [z] at this
      exact this c1
    refine ⟨⟨?_, fun i i0 i1 => ?_, fun i j i0 i1 j0 j1 z => ?_, fun r r0 r1 z => ?_⟩, fun r _ _ z => ?_, by rw [c5]; decide, by omega⟩
    · rw [c2, q1]
      refine (mf_cnt_add (a := u) hu.1 (by rw [mR_int]; exact hu.2) (fun z => z c1) (fun t _ _ => ?_)).symm
      by_cases e : t = u
      · rw [e, c5]; exact ⟨fun _ => Or.inr rfl, fun _ => by decide⟩
      · rw [c6 t e]; exact ⟨fun z => Or.inl z, fun z => z.resolve_right e⟩
    · by_cases e : i = G1 35 7
      · rw [e, c3, c5]; exact ⟨hu, by decide⟩
      · rw [c4 i e, c6 _ (hn i i0 (by omega))]
        exact q2 i i0 (by omega)
    · by_cases ei : i = G1 35 7 <;> by_cases ej : j = G1 35 7
      · omega
      · rw [ei, c3, c4 j ej] at z
        exact absurd z.symm (hn j j0 (by omega))
      · rw [ej, c3, c4 i ei] at z
        exact absurd z (hn i i0 (by omega))
      · rw [c4 i ei, c4 j ej] at z
        exact q3 i j i0 (by omega) j0 (by omega) z
    · by_cases e : r = u
      · exact ⟨G1 35 7, by omega, by omega, by rw [c3, e]⟩
      · rw [c6 r e] at z
        obtain ⟨i, i0, i1, i2⟩ := q4 r r0 r1 z
        exact ⟨i, i0, by omega, by rw [c4 i (by omega)]; exact i2⟩
    · by_cases e : r = u
      · rw [e, c5]; decide
      · rw [c6 r e]; exact z
theorem xP_add {h : Int → Int} {b : Int → Int → Int} {x y : Int} {E : Int → Int → Prop} {G1 G2 : tf_Sto} (hj : xP c h b x y G E G1) {u v : Int} (hu : mf_dom c u) (hv : mf_dom c v) (hc : c ≤ 300) (ht : tpr c h b x y u v) (hxy : xR x y) (hcm : xcm u v G1 G2) : xP c h b x y G E G2 ∧ xPm G1 G2 ∧ xMet G2 u v := by
  obtain ⟨j1, j2, j3, j4, j5, j6, j7⟩ := id hj
  have u0 := hu.1; have u1 := hu.2; have v0 := hv.1; have v1 := hv.2
  obtain ⟨c1, c2, c3, c4⟩ := hcm
  have hmet : xMet G2 u v := (c3 u v v0 (by omega)).mpr (Or.inr ⟨rfl, rfl⟩)
  rcases c4 with ⟨d1, rfl⟩ | ⟨d1, d2, d3, d4⟩
  · exact ⟨hj, xPm.refl, hmet⟩
  · obtain ⟨e1, e2, e3, e4⟩ := xQ_add (v := v) ⟨u0, by omega⟩ j7 d4
    have eN := xN_add (G := G1) (G' := G2) ⟨u0, by omega⟩ ⟨v0, by omega⟩ d1 c3
    refine ⟨⟨fun k p q r s t => (c1 k p q r s t).trans (j1 k p q r s t), by omega, fun a d r z => ?_, fun a d r z => ?_, fun a d r z => (c3 a d r.2.1 r.2.2).mpr (Or.inl (j5 a d r z)), (c3 x y hxy.2.1 hxy.2.2).mpr (Or.inl j6), e1⟩, ⟨fun a d r z => (c3 a d r.2.1 r.2.2).mpr (Or.inl z), fun a d r => ?_, fun a d r z => ?_, e2, by omega⟩, hmet⟩
    · rcases (c3 a d r.2.1 r.2.2).mp z with q | q
      · exact j3 a d r q
      · rw [q.1, q.2]; exact ⟨hu, hv, ht⟩
    · rcases (d3 a d r.2.1 r.2.2).mp z with q | q
      · exact ⟨(c3 a d r.2.1 r.2.2).mpr (Or.inl (j4 a d r q).1), (j4 a d r q).2⟩
      · refine ⟨(c3 a d r.2.1 r.2.2).mpr (Or.inr q), fun w => d1 ?_⟩
        rw [← q.1, ← q.2]
        exact j5 a d r w
    · rw [c3 a d r.2.1 r.2.2, d3 a d r.2.1 r.2.2]
      constructor
      · rintro ⟨z1, z2⟩
        exact ⟨z1.resolve_right (fun q => z2 (Or.inr q)), fun q => z2 (Or.inl q)⟩
      · rintro ⟨z1, z2⟩
        refine ⟨Or.inl z1, fun q => q.elim z2 (fun q => d1 ?_)⟩
        rw [← q.1, ← q.2]
        exact z1
    · rcases (d3 a d r.2.1 r.2.2).mp z with q | q
      · exact Or.inl q
      · rw [q.1]; exact Or.inr e3
def xAl (h : Int → Int) (u v : Int) : Prop := h u ≠ -1 ∧ h u = h v
set_option maxHeartbeats 2000000 in
theorem sp_69 {x y : Int} {E : Int → Int → Prop} {G1 : tf_Sto} (ht : xts c G) (hxy : xR x y) (hj : xP c (G 16) (xB G) x y G E G1) {u v : Int} (hu : mf_dom c u) (hv : mf_dom c v) (htp : tpr c (G 16) (xB G) x y u v) (hlv : -2147483648 ≤ G1 35 1 + 1 ∧ G1 35 1 + 1 ≤ 2147483647) :
    tf_RUN l 69 [tf_r 35, tf_i u, tf_i v] G1 (tf_PV fun G2 => xP c (G 16) (xB G) x y G E G2 ∧ xPm G1 G2 ∧ ((xAl (G 16) u v ∧ G2 35 1 = G1 35 1 ∧ ∀ k, 0 ≤ k → k < mf_w (G 16 u) → xMet G2 (xB G u k) (xB G v k)) ∨ (¬ xAl (G 16) u v ∧ G2 35 1 = G1 35 1 + 1))) := by
  have hc := ht.1
  have bu := ht.b hu
  have bv := ht.b hv
  have e16 := hj.1 16 (by decide) (by decide) (by decide) (by decide) (by decide)
  have leaf : ¬ xAl (G 16) u v → (tf_PV fun G2 => xP c (G 16) (xB G) x y G E G2 ∧ xPm G1 G2 ∧ ((xAl (G 16) u v ∧ G2 35 1 = G1 35 1 ∧ ∀ k, 0 ≤ k → k < mf_w (G 16 u) → xMet G2 (xB G u k) (xB G v k)) ∨ (¬ xAl (G 16) u v ∧ G2 35 1 = G1 35 1 + 1))) (.inl none) (tf_up G1 35 1 (G1 35 1 + 1)) := by
    intro hn
    have u0 : tf_up G1 35 1 (G1 35 1 + 1) 35 0 = G1 35 0 := by rw [tf_up_eq, if_neg (by decide)]
    have u7 : tf_up G1 35 1 (G1 35 1 + 1) 35 7 = G1 35 7 := by rw [tf_up_eq, if_neg (by decide)]
    have u36 : tf_up G1 35 1 (G1 35 1 + 1) 36 = G1 36 := tf_upo (by decide)
    have u37 : tf_up G1 35 1 (G1 35 1 + 1) 37 = G1 37 := tf_upo (by decide)
    have u68 : tf_up G1 35 1 (G1 35 1 + 1) 68 = G1 68 := tf_upo (by decide)
    have u69 : tf_up G1 35 1 (G1 35 1 + 1) 69 = G1 69 := tf_upo (by decide)
    refine tf_pv ⟨?_, ?_, Or.inr ⟨hn, tf_up_at⟩⟩
    · obtain ⟨j1, j2, j3, j4, j5, j6, j7⟩ := hj
      unfold xP xQ xMet xOpn xN xMet
      rw [u0, u7, u36, u37, u68, u69]
      exact ⟨fun k p q r s t => by rw [tf_upo p]; exact j1 k p q r s t, j2, j3, j4, j5, j6, j7⟩
    · unfold xPm xMet xOpn
      rw [u0, u7, u37, u68, u69]
      exact xPm.refl
  refine vc_69 ⟨bu, fun q => ⟨hlv, leaf (fun z => z.1 (by rw [← e16]; exact q))⟩, fun q => ⟨bv, fun q2 => ?_, fun q2 => ⟨hlv, leaf (fun z => q2 (by rw [e16]; exact z.2))⟩⟩⟩
  rw [e16] at q q2
  have hsp := sp_24 (l := l) (G := G1) (a := G1 16 u) (by rw [e16]; exact ht.h hu)
  refine tf_re hsp ?_
  rw [e16]
  have hw := mf_w_in (G 16 u)
  have key : ∀ (d : Nat) (G2 : tf_Sto) (k : Int), 0 ≤ k → k + d = mf_w (G 16 u) → xP c (G 16) (xB G) x y G E G2 → xPm G1 G2 → G2 35 1 = G1 35 1 → (∀ j, 0 ≤ j → j < k → xMet G2 (xB G u j) (xB G v j)) →
      tf_AW l 69 none (tf_PV fun G2 => xP c (G 16) (xB G) x y G E G2 ∧ xPm G1 G2 ∧ ((xAl (G 16) u v ∧ G2 35 1 = G1 35 1 ∧ ∀ k, 0 ≤ k → k < mf_w (G 16 u) → xMet G2 (xB G u k) (xB G v k)) ∨ (¬ xAl (G 16) u v ∧ G2 35 1 = G1 35 1 + 1))) 48 [(0, tf_r 35), (1, tf_i u), (2, tf_i v), (4, tf_i (mf_w (G 16 u))), (5, tf_i k)] [] (none, false) G2 := by
    intro d
    induction d with
    | zero =>
      intro G2 k k0 k1 y1 y2 y3 y4
      exact vc_69_48 ⟨fun _ => tf_pv ⟨y1, y2, Or.inl ⟨⟨q, q2⟩, y3, fun j j0 j1 => y4 j j0 (by omega)⟩⟩, fun z => by omega⟩
    | succ d ih =>
      intro G2 k k0 k1 y1 y2 y3 y4
      have e20 := y1.1 20 (by decide) (by decide) (by decide) (by decide) (by decide)
      have hspa := sp_43 (l := l) (G := G2) bu (k := k) (by omega)
      have hspp := sp_43 (l := l) (G := G2) bv (k := k) (by omega)
      rw [e20] at hspa hspp
      have d1 : mf_dom c (xB G u k) := (ht.2 u hu).2 k k0 (by omega)
      have d2 : mf_dom c (xB G v k) := (ht.2 v hv).2 k k0 (by rw [← q2]; omega)
      have b1 := ht.b d1
      have b2 := ht.b d2
      have hN := xN_in (G := G2)
      have hcnt := y1.2.1
      refine vc_69_48 ⟨fun z => by omega, fun _ => tf_re hspa (tf_re hspp (tf_rv (sp_70 b1 b2 (fun hn => ⟨?_, fun z => y1.2.2.2.2.2.2.lt b1 z⟩)) ?_))⟩
      · have h1 : mf_cnt (fun t => xMet G2 (t / 300) (t % 300) ∨ t = 300 * xB G u k + xB G v k) mK = xN G2 + 1 := by
          refine mf_cnt_add (a := 300 * xB G u k + xB G v k) (by omega) (by rw [mK_int]; omega) ?_ (fun t _ _ => Iff.rfl)
          rw [show (300 * xB G u k + xB G v k) / 300 = xB G u k by omega, show (300 * xB G u k + xB G v k) % 300 = xB G v k by omega]
          exact hn
        have h2 := (mf_cnt_in (fun t => xMet G2 (t / 300) (t % 300) ∨ t = 300 * xB G u k + xB G v k) mK).2
        rw [mK_int, h1] at h2
        omega
      · intro G3 hcm
        obtain ⟨z1, z2, z3⟩ := xP_add y1 d1 d2 hc.2 (fun P s1 s2 => s2 _ _ hu hv (htp P s1 s2) q q2 k k0 (by omega)) hxy hcm
        refine ⟨by omega, ih G3 _ (by omega) (by omega) z1 (y2.trans z2) (by rw [hcm.2.1]; exact y3) (fun j j0 j1 => ?_)⟩
        by_cases e : j = k
        · rw [e]; exact z3
        · have w1 := ht.b ((ht.2 u hu).2 j j0 (by omega))
          have w2 := ht.b ((ht.2 v hv).2 j j0 (by rw [← q2]; omega))
          exact z2.1 _ _ ⟨w1, by omega, by omega⟩ (y4 j j0 (by omega))
  exact key (mf_w (G 16 u)).toNat G1 0 (by omega) (by omega) hj xPm.refl rfl (fun j j0 j1 => by omega)
theorem sp_151 {p : Nat} (hp : p < 64) : tf_RUN l 151 [tf_l (2 ^ p - 1)] G (tf_PI fun r G' => r = (p : Int) ∧ G' = G) := by
  obtain ⟨h1, h2, h3, h4, h5, h6⟩ := bc_all ⟨p, hp⟩
  exact vc_151 ⟨h1, h2, h3, h4, h5, tf_pi ⟨h6, rfl⟩⟩
theorem sp_150 {v : Int} (h : tf_inL v) (h0 : v ≠ 0) : tf_RUN l 150 [tf_l v] G (tf_PI fun r G' => (∃ p : Nat, p < 64 ∧ r = (p : Int) ∧ b64 v p = true ∧ (∀ j, j < p → b64 v j = false) ∧ ∀ j, j < 64 → b64 (tf_land v (tf_lsub v 1)) j = (b64 v j && !decide (j = p))) ∧ G' = G) := by
  obtain ⟨p, p1, p2, p3, p4, p5⟩ := low_word h h0
  refine vc_150 ?_
  rw [p4]
  refine tf_ri (sp_151 p1) ?_
  rintro r G' ⟨rfl, rfl⟩
  exact tf_pi ⟨⟨p, p1, rfl, p2, p3, p5⟩, rfl⟩
end
