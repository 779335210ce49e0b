-- SPEC ZA: the class: pairs, row by row
def xV (E : Int → Int → Prop) (G1 : tf_Sto) (a d : Int) : Prop := xMet G1 a d ∧ ¬ xOpn G1 a d ∧ ¬ E a d
def xJ (c : Int) (h : Int → Int) (b : Int → Int → Int) (x y : Int) (G : tf_Sto) (E Z : Int → Int → Prop) (s : Int) (G1 : tf_Sto) : Prop := xP c h b x y G E G1 ∧ G1 35 1 = mf_cnt (fun q => ¬ tal h q ∧ xV E G1 (q / 300) (q % 300)) mK ∧
  (∀ a d, xR a d → xV E G1 a d → xAl h a d → ∀ k, 0 ≤ k → k < mf_w (h a) → xMet G1 (b a k) (b d k)) ∧ (∀ a d, xR a d → xOpn G1 a d → G1 69 a ≠ 0 ∨ Z a d) ∧ G1 35 7 + s ≤ G1 35 0
def xE (row w v : Int) (a d : Int) : Prop := a = row ∧ d / 64 = w ∧ b64 v (d % 64).toNat = true
abbrev xE0 : Int → Int → Prop := fun _ _ => False
/-- no pair waits -/
def xI0 (G : tf_Sto) : Prop := G 35 7 = 0 ∧ (∀ r, 0 ≤ r → r < 300 → G 69 r = 0) ∧ ∀ a d, xR a d → ¬ xOpn G a d
theorem xI0.fr {G G' : tf_Sto} (h : xI0 G) (e1 : G' 35 7 = G 35 7) (e2 : G' 68 = G 68) (e3 : G' 69 = G 69) : xI0 G' := by
  unfold xI0 xOpn
  rw [e1, e2, e3]
  exact h
section
variable {l : Launch} {G : tf_Sto} {c : Int} {h : Int → Int} {b : Int → Int → Int} {x y : Int}
theorem mK_R {t : Int} (t0 : 0 ≤ t) (t1 : t < (mK : Int)) : xR (t / 300) (t % 300) := by
  rw [mK_int] at t1
  omega
theorem xJ.congr {E Z E' Z' : Int → Int → Prop} {s : Int} {G1 : tf_Sto} (hj : xJ c h b x y G E Z s G1) (he : ∀ a d, xR a d → (E' a d ↔ E a d)) (hz : ∀ a d, xR a d → Z a d → Z' a d) : xJ c h b x y G E' Z' s G1 := by
  obtain ⟨⟨j1, j2, j3, j4, j5, j6, j7⟩, k1, k2, k3, k4⟩ := hj
  refine ⟨⟨j1, j2, j3, fun a d r z => ⟨(j4 a d r z).1, fun q => (j4 a d r z).2 ((he a d r).mp q)⟩, fun a d r z => j5 a d r ((he a d r).mp z), j6, j7⟩, ?_, fun a d r z => k2 a d r ⟨z.1, z.2.1, fun q => z.2.2 ((he a d r).mpr q)⟩, fun a d r z => (k3 a d r z).imp id (hz a d r), k4⟩
  rw [k1]
  refine mf_cnt_congr (fun t t0 t1 => ?_)
  unfold xV
  rw [he _ _ (mK_R t0 t1)]
theorem xJ_word {s row w : Int} {G1 : tf_Sto} (hr : 0 ≤ row ∧ row < 300) (hw : 0 ≤ w ∧ w < 5) (hj : xJ c h b x y G xE0 (fun a d => a = row ∧ w ≤ d / 64) s G1) :
    xJ c h b x y G (xE row w (G1 68 (row * 5 + w))) (fun a d => a = row ∧ w + 1 ≤ d / 64) s (tf_up G1 68 (row * 5 + w) 0) := by
  obtain ⟨⟨j1, j2, j3, j4, j5, j6, j7⟩, k1, k2, k3, k4⟩ := hj
  have u35 : tf_up G1 68 (row * 5 + w) 0 35 = G1 35 := tf_upo (by decide)
  have u36 : tf_up G1 68 (row * 5 + w) 0 36 = G1 36 := tf_upo (by decide)
  have u37 : tf_up G1 68 (row * 5 + w) 0 37 = G1 37 := tf_upo (by decide)
  have u69 : tf_up G1 68 (row * 5 + w) 0 69 = G1 69 := tf_upo (by decide)
  have uo : ∀ a d, xR a d → (xOpn (tf_up G1 68 (row * 5 + w) 0) a d ↔ xOpn G1 a d ∧ ¬ (a = row ∧ d / 64 = w)) := fun a d r => xbt_0 hw r.2
  have hE : ∀ a d, xE row w (G1 68 (row * 5 + w)) a d ↔ xOpn G1 a d ∧ a = row ∧ d / 64 = w := by
    intro a d
    unfold xE xOpn xbt
    constructor
    · rintro ⟨z1, z2, z3⟩
      rw [z1, z2]; exact ⟨z3, rfl, rfl⟩
    · rintro ⟨z3, z1, z2⟩
      rw [z1, z2] at z3
      exact ⟨z1, z2, z3⟩
  have uV : ∀ a d, xR a d → (xV (xE row w (G1 68 (row * 5 + w))) (tf_up G1 68 (row * 5 + w) 0) a d ↔ xV xE0 G1 a d) := by
    intro a d r
    unfold xV
    rw [uo a d r, hE a d, xMet, u37]
    constructor
    · rintro ⟨z1, z2, z3⟩
      refine ⟨z1, fun q => ?_, fun q => q⟩
      by_cases e : a = row ∧ d / 64 = w
      · exact z3 ⟨q, e⟩
      · exact z2 ⟨q, e⟩
    · rintro ⟨z1, z2, -⟩
      exact ⟨z1, fun q => z2 q.1, fun q => z2 q.1⟩
  refine ⟨⟨fun k p q r s t => by rw [tf_upo s]; exact j1 k p q r s t, ?_, fun a d r z => ?_, fun a d r z => ?_, fun a d r z => ?_, ?_, ?_⟩, ?_, fun a d r z => ?_, fun a d r z => ?_, ?_⟩
  · rw [u35, xN_congr (G := G1) (fun a d _ => by rw [xMet, u37])]; exact j2
  · rw [xMet, u37] at z; exact j3 a d r z
  · rw [uo a d r] at z
    rw [xMet, u37, hE a d]
    exact ⟨(j4 a d r z.1).1, fun q => z.2 q.2⟩
  · rw [hE a d] at z
    rw [xMet, u37]
    exact (j4 a d r z.1).1
  · rw [xMet, u37]; exact j6
  · unfold xQ
    rw [u35, u36, u69]
    exact j7
  · rw [u35, k1]
    exact mf_cnt_congr (fun t t0 t1 => by rw [uV _ _ (mK_R t0 t1)])
  · rw [uV a d r] at z
    intro al k k0 k1
    rw [xMet, u37]
    exact k2 a d r z al k k0 k1
  · rw [uo a d r] at z
    rw [u69]
    rcases k3 a d r z.1 with q | q
    · exact Or.inl q
    · refine Or.inr ⟨q.1, ?_⟩
      have : d / 64 ≠ w := fun e => z.2 ⟨q.1, e⟩
      have := q.2
      omega
  · rw [u35]; exact k4
theorem xJ_visit {s row w v v' : Int} {p : Nat} {Z : Int → Int → Prop} {G1 G2 : tf_Sto} (hc : c ≤ 300) (hb : ∀ a d, mf_dom c a → mf_dom c d → xAl h a d → ∀ k, 0 ≤ k → k < mf_w (h a) → mf_dom c (b a k) ∧ mf_dom c (b d k)) (hr : 0 ≤ row ∧ row < 300) (hw : 0 ≤ w ∧ w < 5) (hj : xJ c h b x y G (xE row w v) Z s G1) (hp : p < 64) (hbt : b64 v p = true) (hv : ∀ j, j < 64 → b64 v' j = (b64 v j && !decide (j = p)))
    (h1 : xP c h b x y G (xE row w v) G2) (h2 : xPm G1 G2) (h3 : (xAl h row (w * 64 + p) ∧ G2 35 1 = G1 35 1 ∧ ∀ k, 0 ≤ k → k < mf_w (h row) → xMet G2 (b row k) (b (w * 64 + p) k)) ∨ (¬ xAl h row (w * 64 + p) ∧ G2 35 1 = G1 35 1 + 1)) : xJ c h b x y G (xE row w v') Z s G2 := by
  obtain ⟨⟨-, -, i3, i4, i5, -, -⟩, k1, k2, k3, k4⟩ := hj
  obtain ⟨j1, j2, j3, j4, j5, j6, j7⟩ := h1
  obtain ⟨m1, m2, m3, m4, m5⟩ := h2
  have re : xR row (w * 64 + p) := by omega
  have hE : ∀ a d, xR a d → (xE row w v' a d ↔ xE row w v a d ∧ ¬ (a = row ∧ d = w * 64 + p)) := by
    intro a d r
    unfold xE
    rw [hv (d % 64).toNat (by omega), Bool.and_eq_true, Bool.not_eq_true', decide_eq_false_iff_not]
    constructor
    · rintro ⟨z1, z2, z3, z4⟩
      exact ⟨⟨z1, z2, z3⟩, fun q => z4 (by omega)⟩
    · rintro ⟨⟨z1, z2, z3⟩, z4⟩
      exact ⟨z1, z2, z3, fun q => z4 ⟨z1, by omega⟩⟩
  have he : xE row w v row (w * 64 + p) := ⟨rfl, by omega, by rw [show ((w * 64 + (p : Int)) % 64).toNat = p by omega]; exact hbt⟩
  have hm := i5 _ _ re he
  have hno : ¬ xOpn G1 row (w * 64 + p) := fun q => (i4 _ _ re q).2 he
  obtain ⟨dr, dp, -⟩ := i3 _ _ re hm
  have d300 : w * 64 + (p : Int) < 300 := by have := dp.2; omega
  have hV : ∀ a d, xR a d → (xV (xE row w v') G2 a d ↔ xV (xE row w v) G1 a d ∨ (a = row ∧ d = w * 64 + p)) := by
    intro a d r
    unfold xV
    rw [hE a d r]
    constructor
    · rintro ⟨z1, z2, z3⟩
      obtain ⟨y1, y2⟩ := (m2 a d r).mp ⟨z1, z2⟩
      by_cases e : a = row ∧ d = w * 64 + p
      · exact Or.inr e
      · exact Or.inl ⟨y1, y2, fun q => z3 ⟨q, e⟩⟩
    · rintro (⟨z1, z2, z3⟩ | e)
      · obtain ⟨y1, y2⟩ := (m2 a d r).mpr ⟨z1, z2⟩
        exact ⟨y1, y2, fun q => z3 q.1⟩
      · rw [e.1, e.2]
        obtain ⟨y1, y2⟩ := (m2 _ _ re).mpr ⟨hm, hno⟩
        exact ⟨y1, y2, fun q => q.2 ⟨rfl, rfl⟩⟩
  refine ⟨⟨j1, j2, j3, fun a d r z => ⟨(j4 a d r z).1, fun q => (j4 a d r z).2 ((hE a d r).mp q).1⟩, fun a d r z => j5 a d r ((hE a d r).mp z).1, j6, j7⟩, ?_, fun a d r z al k k0 k1 => ?_, fun a d r z => ?_, by omega⟩
  · have e1 : (300 * row + (w * 64 + (p : Int))) / 300 = row := by omega
    have e2 : (300 * row + (w * 64 + (p : Int))) % 300 = w * 64 + p := by omega
    rcases h3 with ⟨al, h3, -⟩ | ⟨al, h3⟩
    · rw [h3, k1]
      refine mf_cnt_congr (fun t t0 t1 => ?_)
      rw [hV _ _ (mK_R t0 t1)]
      constructor
      · rintro ⟨z1, z2⟩; exact ⟨z1, Or.inl z2⟩
      · rintro ⟨z1, z2 | z2⟩
        · exact ⟨z1, z2⟩
        · refine absurd ?_ z1
          unfold tal
          rw [z2.1, z2.2]
          exact al
    · rw [h3, k1]
      refine (mf_cnt_add (a := 300 * row + (w * 64 + p)) (by omega) (by rw [mK_int]; omega) ?_ (fun t t0 t1 => ?_)).symm
      · rintro ⟨-, z⟩
        rw [e1, e2] at z
        exact z.2.2 he
      · rw [hV _ _ (mK_R t0 t1)]
        constructor
        · rintro ⟨z1, z2 | z2⟩
          · exact Or.inl ⟨z1, z2⟩
          · exact Or.inr (by omega)
        · rintro (⟨z1, z2⟩ | z)
          · exact ⟨z1, Or.inl z2⟩
          · refine ⟨fun q => al ?_, Or.inr (by rw [z]; exact ⟨e1, e2⟩)⟩
            unfold tal at q
            rw [z, e1, e2] at q
            exact q
  · rcases (hV a d r).mp z with q | q
    · obtain ⟨d1, d2, -⟩ := i3 a d r q.1
      obtain ⟨w1, w2⟩ := hb a d d1 d2 al k k0 k1
      have a1 := w1.1; have a2 := w1.2; have a3 := w2.1; have a4 := w2.2
      exact m1 _ _ ⟨⟨a1, by omega⟩, a3, by omega⟩ (k2 a d r q al k k0 k1)
    · rw [q.1, q.2] at al ⊢
      rw [q.1] at k1
      rcases h3 with ⟨-, -, h3⟩ | ⟨h3, -⟩
      · exact h3 k k0 k1
      · exact absurd al h3
  · rcases m3 a d r z with q | q
    · rcases k3 a d r q with q | q
      · exact Or.inl (m4 a r.1.1 r.1.2 q)
      · exact Or.inr q
    · exact Or.inl q
end
section
variable {l : Launch} {G : tf_Sto} {c : Int} {x y : Int}
theorem xts.al (ht : xts c G) (a d : Int) (da : mf_dom c a) (dd : mf_dom c d) (al : xAl (G 16) a d) (k : Int) (k0 : 0 ≤ k) (k1 : k < mf_w (G 16 a)) : mf_dom c (xB G a k) ∧ mf_dom c (xB G d k) :=
  ⟨(ht.2 a da).2 k k0 k1, (ht.2 d dd).2 k k0 (by rw [← al.2]; exact k1)⟩
set_option maxHeartbeats 2000000 in
theorem sp_149 {s row : Int} {G1 : tf_Sto} (ht : xts c G) (hxy : xR x y) (hr : 0 ≤ row ∧ row < 300) (hj : xJ c (G 16) (xB G) x y G xE0 (fun a _ => a = row) s G1) : tf_RUN l 149 [tf_r 35, tf_i row] G1 (tf_PV (xJ c (G 16) (xB G) x y G xE0 xE0 s)) := by
  refine vc_149 ?_
  have hc := ht.1
  have outer : ∀ (d : Nat) (w : Int) (G2 : tf_Sto), 0 ≤ w → w + d = 5 → xJ c (G 16) (xB G) x y G xE0 (fun a d => a = row ∧ w ≤ d / 64) s G2 → tf_AW l 149 none (tf_PV (xJ c (G 16) (xB G) x y G xE0 xE0 s)) 2 [(0, tf_r 35), (1, tf_i row), (2, tf_i w)] [] (none, false) G2 := by
    intro d
    induction d with
    | zero =>
      intro w G2 w0 w1 h2
      exact vc_149_2 ⟨fun _ => tf_pv (h2.congr (fun _ _ _ => Iff.rfl) (fun a d r z => by have := z.2; omega)), fun z => by omega⟩
    | succ d ih =>
      intro w G2 w0 w1 h2
      have hw : 0 ≤ w ∧ w < 5 := by omega
      refine vc_149_2 ⟨fun z => by omega, fun _ => ⟨by omega, by omega, by omega, by omega, by omega, by omega, ?_⟩⟩
      have inner : ∀ (e : Nat) (v st : Int) (G3 : tf_Sto), 0 ≤ st → st + e = 64 → (∀ j : Nat, (j : Int) < st → b64 v j = false) → xJ c (G 16) (xB G) x y G (xE row w v) (fun a d => a = row ∧ w + 1 ≤ d / 64) s G3 →
          tf_AW l 149 none (tf_PV (xJ c (G 16) (xB G) x y G xE0 xE0 s)) 32 [(0, tf_r 35), (1, tf_i row), (2, tf_i w), (3, tf_l v), (5, tf_i st)] [] (none, false) G3 := by
        intro e
        have next : ∀ (v : Int) (G3 : tf_Sto), (∀ j : Nat, j < 64 → b64 v j = false) → xJ c (G 16) (xB G) x y G (xE row w v) (fun a d => a = row ∧ w + 1 ≤ d / 64) s G3 → tf_AW l 149 none (tf_PV (xJ c (G 16) (xB G) x y G xE0 xE0 s)) 2 [(0, tf_r 35), (1, tf_i row), (2, tf_i (w + 1))] [] (none, false) G3 := by
          intro v G3 hv h3
          refine ih (w + 1) G3 (by omega) (by omega) (h3.congr (fun a d r => ⟨fun q => q.elim, fun q => ?_⟩) (fun _ _ _ q => q))
          have := q.2.2
          rw [hv _ (by omega)] at this
          cases this
        induction e with
        | zero =>
          intro v st G3 s0 s1 hv h3
          exact vc_149_32 ⟨fun _ => ⟨by omega, next v G3 (fun j hj => hv j (by omega)) h3⟩, fun z => by omega⟩
        | succ e ihe =>
          intro v st G3 s0 s1 hv h3
          refine tf_AWok fun hok => ?_
          have hvL : tf_inL v := hok (3, tf_l v) (by simp)
          refine vc_149_32 ⟨fun z => by omega, fun _ => ⟨fun z => ?_, fun z => ⟨by omega, ?_⟩⟩⟩
          · have hz := lcmp0.mp z
            subst hz
            exact ⟨by omega, next 0 G3 (fun j _ => b64_0 j) h3⟩
          · refine tf_ri (sp_150 hvL (fun q => z (lcmp0.mpr q))) ?_
            rintro r G4 ⟨⟨p, p1, rfl, p2, p3, p4⟩, rfl⟩
            obtain ⟨i1, i2, i3, i4⟩ := id h3
            have re : xR row (w * 64 + p) := by omega
            have he : xE row w v row (w * 64 + p) := ⟨rfl, by omega, by rw [show ((w * 64 + (p : Int)) % 64).toNat = p by omega]; exact p2⟩
            have hm := i1.2.2.2.2.1 _ _ re he
            obtain ⟨dr, dp, htp⟩ := i1.2.2.1 _ _ re hm
            have hlb := mf_cnt_in (fun q => ¬ tal (G 16) q ∧ xV (xE row w v) G4 (q / 300) (q % 300)) mK
            rw [mK_int, ← i2] at hlb
            refine ⟨by omega, tf_rv (sp_69 ht hxy i1 dr dp htp (by omega)) ?_⟩
            rintro G5 ⟨b1, b2, b3⟩
            refine ⟨by omega, ihe _ _ G5 (by omega) (by omega) (fun j hj => ?_) (xJ_visit hc.2 ht.al hr hw h3 p1 p2 p4 b1 b2 b3)⟩
            rw [p4 j (by omega)]
            by_cases q1 : j < p
            · rw [p3 j q1]; rfl
            · have hps : ¬ (p : Int) < st := fun q => by
                have := hv p q
                rw [p2] at this
                cases this
              have : j = p := by omega
              rw [this]; simp
      exact inner 64 _ 0 _ (by omega) (by omega) (fun j hj => by omega) (xJ_word hr hw h2)
  exact outer 5 0 G1 (by omega) (by omega) (hj.congr (fun _ _ _ => Iff.rfl) (fun a d r z => ⟨z, by omega⟩))
set_option maxHeartbeats 2000000 in
theorem sp_68 (ht : xts c G) (hx : mf_dom c x) (hy : mf_dom c y) (h0 : xI0 G) : tf_RUN l 68 [tf_r 35, tf_i x, tf_i y] G (tf_PV fun G' => (∀ k : Nat, k ≠ 35 → k ≠ 36 → k ≠ 37 → k ≠ 68 → k ≠ 69 → G' k = G k) ∧ (G' 35 0 = tcom c (G 16) (xB G) x y 0 ∧ G' 35 1 = tcom c (G 16) (xB G) x y 1) ∧ xI0 G') := by
  have hc := ht.1
  have bx := ht.b hx
  have by' := ht.b hy
  have hxy : xR x y := by omega
  refine vc_68 (tf_rv sp_fJ37 ?_)
  rintro G0 ⟨f1, f2⟩
  have u0 : tf_up (tf_up G0 35 0 0) 35 1 0 35 0 = 0 := by rw [tf_up_eq, if_neg (by decide), tf_up_at]
  have u1 : tf_up (tf_up G0 35 0 0) 35 1 0 35 1 = 0 := tf_up_at
  have u7 : tf_up (tf_up G0 35 0 0) 35 1 0 35 7 = 0 := by rw [tf_up_eq, if_neg (by decide), tf_up_eq, if_neg (by decide), f1 35 (by decide)]; exact h0.1
  have u37 : ∀ j, 0 ≤ j → j < 1500 → tf_up (tf_up G0 35 0 0) 35 1 0 37 j = 0 := fun j j0 j1 => by rw [tf_upo (by decide), tf_upo (by decide)]; exact f2 j j0 j1
  have uo : ∀ k : Nat, k ≠ 35 → k ≠ 37 → tf_up (tf_up G0 35 0 0) 35 1 0 k = G k := fun k a b => by rw [tf_upo a, tf_upo a]; exact f1 k b
  generalize tf_up (tf_up G0 35 0 0) 35 1 0 = Ga at *
  have u69 : ∀ r, 0 ≤ r → r < 300 → Ga 69 r = 0 := fun r r0 r1 => by rw [uo 69 (by decide) (by decide)]; exact h0.2.1 r r0 r1
  have hno : ∀ a d, xR a d → ¬ xMet Ga a d := by
    intro a d r
    unfold xMet xbt
    rw [u37 _ (by omega) (by omega), b64_0]
    decide
  have hop : ∀ a d, xR a d → ¬ xOpn Ga a d := by
    intro a d r
    rw [xOpn, uo 68 (by decide) (by decide)]
    exact h0.2.2 a d r
  have hQa : xQ Ga := by
    refine ⟨?_, fun i i0 i1 => by omega, fun i j i0 i1 => by omega, fun r r0 r1 z => absurd (u69 r r0 r1) z⟩
    rw [u7]
    exact (mf_cnt_none (fun t t0 t1 z => z (u69 t t0 (by rw [mR_int] at t1; exact t1)))).symm
  have hNa : xN Ga = 0 := mf_cnt_none (fun t t0 t1 => hno _ _ (mK_R t0 t1))
  refine tf_rv (sp_70 bx by' (fun _ => ⟨by rw [u0]; omega, fun _ => by rw [u7]; omega⟩)) ?_
  intro G1 hcm
  obtain ⟨c1, c2, c3, c4⟩ := hcm
  have hn0 := hno x y hxy
  rcases c4 with c4 | ⟨-, d2, d3, d4⟩
  · exact absurd c4.1 hn0
  obtain ⟨e1, e2, e3, e4⟩ := xQ_add (v := y) bx hQa d4
  have hN1 := xN_add (G := Ga) (G' := G1) bx by' hn0 c3
  have hM1 : ∀ a d, xR a d → (xMet G1 a d ↔ a = x ∧ d = y) := fun a d r => by
    rw [c3 a d r.2.1 r.2.2]
    exact ⟨fun z => z.resolve_left (hno a d r), fun z => Or.inr z⟩
  have hO1 : ∀ a d, xR a d → (xOpn G1 a d ↔ a = x ∧ d = y) := fun a d r => by
    rw [d3 a d r.2.1 r.2.2]
    exact ⟨fun z => z.resolve_left (hop a d r), fun z => Or.inr z⟩
  have hV1 : ∀ a d, xR a d → ¬ xV xE0 G1 a d := fun a d r z => z.2.1 ((hO1 a d r).mpr ((hM1 a d r).mp z.1))
  have hJ1 : xJ c (G 16) (xB G) x y G xE0 xE0 0 G1 := by
    refine ⟨⟨fun k p q r s t => (c1 k p q r s t).trans (uo k p r), by omega, fun a d r z => ?_, fun a d r z => ⟨(hM1 a d r).mpr ((hO1 a d r).mp z), fun q => q⟩, fun a d r z => z.elim, (hM1 x y hxy).mpr ⟨rfl, rfl⟩, e1⟩, ?_, fun a d r z => absurd z (hV1 a d r), fun a d r z => ?_, by omega⟩
    · obtain ⟨z1, z2⟩ := (hM1 a d r).mp z
      rw [z1, z2]
      exact ⟨hx, hy, fun P s1 _ => s1⟩
    · rw [c2, u1]
      exact (mf_cnt_none (fun t t0 t1 z => hV1 _ _ (mK_R t0 t1) z.2)).symm
    · rw [((hO1 a d r).mp z).1]; exact Or.inl e3
  have fin : ∀ (G2 : tf_Sto) (v : Int), G2 35 7 ≤ 0 → xJ c (G 16) (xB G) x y G xE0 xE0 v G2 → (tf_PV fun G' => (∀ k : Nat, k ≠ 35 → k ≠ 36 → k ≠ 37 → k ≠ 68 → k ≠ 69 → G' k = G k) ∧ (G' 35 0 = tcom c (G 16) (xB G) x y 0 ∧ G' 35 1 = tcom c (G 16) (xB G) x y 1) ∧ xI0 G') (.inl none) G2 := by
    intro G2 v hv hJ
    obtain ⟨⟨j1, j2, j3, j4, j5, j6, j7⟩, k1, k2, k3, k4⟩ := hJ
    have h7 := j7.in
    have hwt : ∀ r, 0 ≤ r → r < 300 → G2 69 r = 0 := by
      intro r r0 r1
      apply Classical.byContradiction
      intro z
      obtain ⟨i, i0, i1, -⟩ := j7.2.2.2 r r0 r1 z
      omega
    have hop2 : ∀ a d, xR a d → ¬ xOpn G2 a d := fun a d r z => (k3 a d r z).elim (fun q => q (hwt a r.1.1 r.1.2)) id
    have hVM : ∀ a d, xR a d → (xV xE0 G2 a d ↔ xMet G2 a d) := fun a d r => ⟨fun z => z.1, fun z => ⟨z, hop2 a d r, fun q => q⟩⟩
    have hiff : ∀ q, 0 ≤ q → q < (mK : Int) → (xMet G2 (q / 300) (q % 300) ↔ tpr c (G 16) (xB G) x y (q / 300) (q % 300)) := by
      intro q q0 q1
      refine ⟨fun z => (j3 _ _ (mK_R q0 q1) z).2.2, fun z => ?_⟩
      refine (z (fun a e => mf_dom c a ∧ mf_dom c e ∧ xMet G2 a e) ⟨hx, hy, j6⟩ (fun a e da de p hl he k k0 k1 => ?_)).2.2
      obtain ⟨w1, w2⟩ := ht.al a e da de ⟨hl, he⟩ k k0 k1
      have ba := ht.b da; have be := ht.b de
      have r : xR a e := by omega
      exact ⟨w1, w2, k2 a e r ((hVM a e r).mpr p.2.2) ⟨hl, he⟩ k k0 k1⟩
    refine tf_pv ⟨j1, ⟨?_, ?_⟩, by omega, hwt, hop2⟩
    · unfold tcom
      rw [if_pos rfl, j2]
      exact mf_cnt_congr hiff
    · unfold tcom
      rw [if_neg (by decide), k1]
      refine mf_cnt_congr (fun t t0 t1 => ?_)
      rw [← hiff t t0 t1, hVM _ _ (mK_R t0 t1)]
      exact ⟨fun z => ⟨z.2, z.1⟩, fun z => ⟨z.2, z.1⟩⟩
  have key : ∀ (d : Nat) (G2 : tf_Sto) (v : Int), 0 ≤ v → v + d = 90000 → xJ c (G 16) (xB G) x y G xE0 xE0 v G2 →
      tf_AW l 68 none (tf_PV fun G' => (∀ k : Nat, k ≠ 35 → k ≠ 36 → k ≠ 37 → k ≠ 68 → k ≠ 69 → G' k = G k) ∧ (G' 35 0 = tcom c (G 16) (xB G) x y 0 ∧ G' 35 1 = tcom c (G 16) (xB G) x y 1) ∧ xI0 G') 26 [(0, tf_r 35), (3, tf_i v)] [] (none, false) G2 := by
    intro d
    induction d with
    | zero =>
      intro G2 v v0 v1 hJ
      have h1 := hJ.1.2.1
      have h2 := xN_in (G := G2)
      have h3 := hJ.2.2.2.2
      exact vc_68_26 ⟨fun _ => fin G2 v (by omega) hJ, fun z => by omega⟩
    | succ d ih =>
      intro G2 v v0 v1 hJ
      have h7 := hJ.1.2.2.2.2.2.2.in
      refine vc_68_26 ⟨fun z => by omega, fun _ => ⟨fun z => fin G2 v z hJ, fun z => ?_⟩⟩
      obtain ⟨⟨j1, j2, j3, j4, j5, j6, j7⟩, k1, k2, k3, k4⟩ := id hJ
      obtain ⟨q1, q2, q3, q4⟩ := j7
      obtain ⟨r1, r2⟩ := q2 (G2 35 7 - 1) (by omega) (by omega)
      refine ⟨by omega, by omega, r1, by omega, ?_⟩
      have u35 : ∀ j, j ≠ 7 → tf_up (tf_up G2 35 7 (G2 35 7 - 1)) 69 (G2 36 (G2 35 7 - 1)) 0 35 j = G2 35 j := fun j hj => by rw [tf_upo' (by decide), tf_up_eq, if_neg hj]
      have u357 : tf_up (tf_up G2 35 7 (G2 35 7 - 1)) 69 (G2 36 (G2 35 7 - 1)) 0 35 7 = G2 35 7 - 1 := by rw [tf_upo' (by decide), tf_up_at]
      have u36 : tf_up (tf_up G2 35 7 (G2 35 7 - 1)) 69 (G2 36 (G2 35 7 - 1)) 0 36 = G2 36 := by rw [tf_upo (by decide), tf_upo (by decide)]
      have u37' : tf_up (tf_up G2 35 7 (G2 35 7 - 1)) 69 (G2 36 (G2 35 7 - 1)) 0 37 = G2 37 := by rw [tf_upo (by decide), tf_upo (by decide)]
      have u68 : tf_up (tf_up G2 35 7 (G2 35 7 - 1)) 69 (G2 36 (G2 35 7 - 1)) 0 68 = G2 68 := by rw [tf_upo (by decide), tf_upo (by decide)]
      have u69' : tf_up (tf_up G2 35 7 (G2 35 7 - 1)) 69 (G2 36 (G2 35 7 - 1)) 0 69 (G2 36 (G2 35 7 - 1)) = 0 := tf_up_at
      have u69n : ∀ r, r ≠ G2 36 (G2 35 7 - 1) → tf_up (tf_up G2 35 7 (G2 35 7 - 1)) 69 (G2 36 (G2 35 7 - 1)) 0 69 r = G2 69 r := fun r hr => by rw [tf_up_eq, if_neg hr, tf_upo' (by decide)]
      have uk : ∀ k : Nat, k ≠ 35 → k ≠ 69 → tf_up (tf_up G2 35 7 (G2 35 7 - 1)) 69 (G2 36 (G2 35 7 - 1)) 0 k = G2 k := fun k a b => by rw [tf_upo b, tf_upo a]
      generalize tf_up (tf_up G2 35 7 (G2 35 7 - 1)) 69 (G2 36 (G2 35 7 - 1)) 0 = G3 at *
      generalize hrow : G2 36 (G2 35 7 - 1) = row at *
      have hQ3 : xQ G3 := by
        have hne : ∀ i, 0 ≤ i → i < G2 35 7 - 1 → G2 36 i ≠ row := by
          intro i i0 i1 e
          have := q3 i (G2 35 7 - 1) i0 (by omega) (by omega) (by omega) (by rw [e, hrow])
          omega
        refine ⟨?_, fun i i0 i1 => ?_, fun i j i0 i1 j0 j1 e => ?_, fun r r0 r1' e => ?_⟩
        · rw [u357]
          have h1 := mf_cnt_add (P := fun r => G3 69 r ≠ 0) (Q := fun r => G2 69 r ≠ 0) (n := mR) (a := row) r1.1 (by rw [mR_int]; exact r1.2) (fun q => q u69') (fun t _ _ => ?_)
          · omega
          · by_cases e : t = row
            · rw [e]; exact ⟨fun _ => Or.inr rfl, fun _ => r2⟩
            · rw [u69n t e]; exact ⟨fun q => Or.inl q, fun q => q.resolve_right e⟩
        · rw [u357] at i1
          rw [u36, u69n _ (hne i i0 i1)]
          exact q2 i i0 (by omega)
        · rw [u357] at i1 j1
          rw [u36] at e
          exact q3 i j i0 (by omega) j0 (by omega) e
        · have hr : r ≠ row := fun q => e (by rw [q]; exact u69')
          rw [u69n r hr] at e
          obtain ⟨i, i0, i1, i2⟩ := q4 r r0 r1' e
          refine ⟨i, i0, ?_, by rw [u36]; exact i2⟩
          rw [u357]
          have : i ≠ G2 35 7 - 1 := fun q => hr (by rw [← i2, q, hrow])
          omega
      have hJ3 : xJ c (G 16) (xB G) x y G xE0 (fun a _ => a = row) (v + 1) G3 := by
        have uV : ∀ a d, xV xE0 G3 a d ↔ xV xE0 G2 a d := fun a d => by unfold xV xMet xOpn; rw [u37', u68]
        refine ⟨⟨fun k p q r s t => (uk k p t).trans (j1 k p q r s t), ?_, fun a d r e => ?_, fun a d r e => ?_, fun a d r e => e.elim, by rw [xMet, u37']; exact j6, hQ3⟩, ?_, fun a d r e => ?_, fun a d r e => ?_, ?_⟩
        · rw [u35 0 (by decide), xN_congr (G := G2) (fun a d _ => by rw [xMet, u37'])]; exact j2
        · rw [xMet, u37'] at e; exact j3 a d r e
        · rw [xOpn, u68] at e
          rw [xMet, u37']
          exact j4 a d r e
        · rw [u35 1 (by decide), k1]
          exact mf_cnt_congr (fun t _ _ => by rw [uV])
        · rw [uV] at e
          intro al k k0 k1'
          rw [xMet, u37']
          exact k2 a d r e al k k0 k1'
        · rw [xOpn, u68] at e
          by_cases q : a = row
          · exact Or.inr q
          · rw [u69n a q]
            exact (k3 a d r e).elim (fun w => Or.inl w) (fun w => w.elim)
        · rw [u357, u35 0 (by decide)]; omega
      refine tf_rv (sp_149 ht hxy r1 hJ3) ?_
      intro G4 hJ4
      exact ⟨by omega, ih G4 _ (by omega) (by omega) hJ4⟩
  exact key 90000 G1 0 (by omega) (by omega) hJ1
end
