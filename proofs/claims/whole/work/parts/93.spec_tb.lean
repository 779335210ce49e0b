theorem tR_step {s : Int → List Int} {bx : Int → Int} {w j : Int} (hj : 0 ≤ j) : tR s bx w (j + 1).toNat = (if j + 1 = w then 40 else 44) :: (s (bx (w - (j + 1))) ++ tR s bx w j.toNat) := by
  obtain ⟨m, rfl⟩ := Int.eq_ofNat_of_zero_le hj
  have e : ((m : Int) + 1).toNat = m + 1 := by omega
  rw [e]
  rfl
section
variable {l : Launch} {G : tf_Sto} {D : List Int} {c : Int} {h lst : Int → Int} {b : Int → Int → Int}
theorem sp_74 {x w : Int} {d : Nat} {s : List Int} (hx : 0 ≤ x ∧ x < 300) (hw : 0 ≤ w ∧ w ≤ 3) (hb : ∀ k, 0 ≤ k → k < w → mf_dom c (xB G x k) ∧ tok h b d (xB G x k)) (hD : xD D G) (hs : xSk c h lst b G s) (hm : G 38 6 ≤ 199) (hl : D.length ≤ 99990) :
    tf_RUN l 74 [tf_r 38, tf_i x, tf_i w] G (tf_PV fun G' => xwg G G' ∧ ∃ D' s', xD D' G' ∧ xSk c h lst b G' s' ∧ D' ++ s' = D ++ (tR (fun y => tS h lst b d y) (xB G x) w w.toNat ++ s) ∧ D.length ≤ D'.length ∧ D'.length ≤ D.length + 1 ∧ G' 38 6 ≤ G 38 6 + 6) := by
  have loop : ∀ (m : Nat) (k : Int) (G1 : tf_Sto), k + 1 = m → k < w → xwg G G1 → xD (D ++ [40]) G1 → (∃ s1, xSk c h lst b G1 s1 ∧ (0 ≤ k → s1 = tR (fun y => tS h lst b d y) (xB G x) w (w - 1 - k).toNat ++ s) ∧ (k < 0 → 40 :: s1 = tR (fun y => tS h lst b d y) (xB G x) w w.toNat ++ s)) → G1 38 6 ≤ G 38 6 + 1 + 2 * (w - 1 - k) → G1 38 6 ≤ G 38 6 + 6 →
      tf_AW l 74 none (tf_PV fun G' => xwg G G' ∧ ∃ D' s', xD D' G' ∧ xSk c h lst b G' s' ∧ D' ++ s' = D ++ (tR (fun y => tS h lst b d y) (xB G x) w w.toNat ++ s) ∧ D.length ≤ D'.length ∧ D'.length ≤ D.length + 1 ∧ G' 38 6 ≤ G 38 6 + 6) 21 [(0, tf_r 38), (1, tf_i x), (3, tf_i k)] [] (none, false) G1 := by
    intro m
    induction m with
    | zero =>
      rintro k G1 hk hkw hf hD1 ⟨s1, hs1, g1, g2⟩ hn hn6
      refine vc_74_21 ⟨fun q => ?_, fun q => by omega⟩
      refine tf_pv ⟨hf, D ++ [40], s1, hD1, hs1, ?_, by simp, by simp, hn6⟩
      rw [← g2 q]
      simp
    | succ m ih =>
      rintro k G1 hk hkw hf hD1 ⟨s1, hs1, g1, g2⟩ hn hn6
      refine vc_74_21 ⟨fun q => by omega, fun q => ?_⟩
      refine tf_re (sp_43 hx ⟨q, by omega⟩) ?_
      have e20 : G1 20 (x * 3 + k) = xB G x k := by rw [hf.1 20 (by decide) (by decide) (by decide)]; rfl
      rw [e20]
      have hm0 : 0 ≤ G1 38 6 := by obtain ⟨m, e, _⟩ := hs1; omega
      obtain ⟨hb1, hb2⟩ := hb k q hkw
      refine tf_rv (sp_75 ⟨hm0, by omega⟩) fun G2 h2 => ?_
      subst h2
      have hs2 := xSk.push (v := xB G x k) (s1 := tS h lst b d (xB G x k)) hs1 (Or.inr ⟨hb1, d, hb2, rfl⟩)
      have hD2 := hD1.psh (v := xB G x k)
      have hf2 := hf.trans (xwg.psh (v := xB G x k))
      have hn2 : (tf_up (tf_up G1 41 (G1 38 6) (xB G x k)) 38 6 (G1 38 6 + 1)) 38 6 = G1 38 6 + 1 := tf_up_at
      have es := g1 q
      refine ⟨fun q1 => ⟨⟨by omega, by omega⟩, ?_⟩, fun q1 => ?_⟩
      · have k0 : k = 0 := by omega
        refine ih (k + (-1)) _ (by omega) (by omega) hf2 hD2 ⟨_, hs2, fun q2 => by omega, fun _ => ?_⟩ (by rw [hn2]; omega) (by rw [hn2]; omega)
        have st := tR_step (s := fun y => tS h lst b d y) (bx := xB G x) (w := w) (j := w - 1) (by omega)
        rw [show w - 1 + 1 = w by omega, if_pos rfl, show w - w = k by omega] at st
        rw [st, es, k0, show w - 1 - 0 = w - 1 by omega]
        simp
      · have hm1 : 0 ≤ G1 38 6 + 1 := by omega
        generalize hG2 : tf_up (tf_up G1 41 (G1 38 6) (xB G x k)) 38 6 (G1 38 6 + 1) = G2 at *
        refine tf_rv (sp_75 ⟨by omega, by omega⟩) fun G3 h3 => ?_
        subst h3
        refine ⟨⟨by omega, by omega⟩, ?_⟩
        have hs3 := xSk.push (v := -44) (s1 := [44]) hs2 (Or.inl ⟨⟨by decide, by decide⟩, rfl⟩)
        have hn3 : (tf_up (tf_up G2 41 (G2 38 6) (-44)) 38 6 (G2 38 6 + 1)) 38 6 = G2 38 6 + 1 := tf_up_at
        refine ih (k + (-1)) _ (by omega) (by omega) (hf2.trans xwg.psh) hD2.psh ⟨_, hs3, fun _ => ?_, fun q2 => by omega⟩ (by rw [hn3]; omega) (by rw [hn3]; omega)
        have st := tR_step (s := fun y => tS h lst b d y) (bx := xB G x) (w := w) (j := w - 1 - k) (by omega)
        rw [if_neg (by omega), show w - (w - 1 - k + 1) = k by omega] at st
        rw [show w - 1 - (k + -1) = w - 1 - k + 1 by omega, st, es]
        simp
  have hm0 : 0 ≤ G 38 6 := by obtain ⟨m, e, _⟩ := hs; omega
  refine vc_74 ⟨fun q => ?_, fun q => ?_⟩
  · refine tf_rv (sp_77 hD ⟨by decide, by decide⟩ (by omega)) fun G2 h2 => ?_
    have e6 : G2 38 6 = G 38 6 := h2.1.2 6 (by decide)
    refine tf_rv (sp_75 ⟨by omega, by omega⟩) fun G3 h3 => ?_
    subst h3
    refine ⟨⟨by omega, by omega⟩, ?_⟩
    have hs3 := xSk.push (v := -41) (s1 := [41]) (hs.wf h2.1) (Or.inl ⟨⟨by decide, by decide⟩, rfl⟩)
    have hn3 : (tf_up (tf_up G2 41 (G2 38 6) (-41)) 38 6 (G2 38 6 + 1)) 38 6 = G2 38 6 + 1 := tf_up_at
    refine loop w.toNat (w - 1) _ (by omega) (by omega) (h2.1.g.trans xwg.psh) h2.2.psh ⟨_, hs3, fun _ => ?_, fun q2 => by omega⟩ (by rw [hn3]; omega) (by rw [hn3]; omega)
    rw [show (w - 1 - (w - 1)).toNat = 0 by omega]
    simp only [tR]
    rw [if_pos (by omega)]
  · refine tf_pv ⟨⟨fun _ _ _ _ => rfl, fun _ _ _ => rfl⟩, D, s, hD, hs, ?_, Nat.le_refl _, by omega, by omega⟩
    subst q
    simp [tR]
theorem sp_73 {v : Int} {s1 s : List Int} (ht : xts c G) (hl : ∀ x, mf_dom c x → G 16 x = -1 → 0 ≤ G 17 x ∧ G 17 x ≤ 999) (hI : xI c (G 16) (G 17) (xB G) (fun _ => v) 0 s1) (hD : xD D G) (hs : xSk c (G 16) (G 17) (xB G) G s) (hm : G 38 6 ≤ 199) (hL : D.length ≤ 99000) :
    tf_RUN l 73 [tf_r 38, tf_i v] G (tf_PV fun G' => xwg G G' ∧ ∃ D' s', xD D' G' ∧ xSk c (G 16) (G 17) (xB G) G' s' ∧ D' ++ s' = D ++ (s1 ++ s) ∧ D.length + 1 ≤ D'.length ∧ D'.length ≤ D.length + 10 ∧ G' 38 6 ≤ G 38 6 + 6) := by
  have hI2 : ((-127 ≤ v ∧ v < 0) ∧ s1 = [-v]) ∨ (mf_dom c v ∧ ∃ d, tok (G 16) (xB G) d v ∧ s1 = tS (G 16) (G 17) (xB G) d v) := hI
  rcases hI2 with ⟨hv, e⟩ | ⟨hv, d, hk, e⟩
  · refine vc_73 ⟨fun q => by omega, fun q => ⟨⟨by omega, by omega⟩, ?_⟩⟩
    refine tf_rv (sp_77 hD ⟨by omega, by omega⟩ (by omega)) fun G2 h2 => tf_pv ⟨h2.1.g, _, s, h2.2, hs.wf h2.1, ?_, by simp, by simp, ?_⟩
    · rw [e]; simp
    · rw [h2.1.2 6 (by decide)]; omega
  · have hb := ht.b hv
    have hh := (ht.2 v hv).1
    have hc := (ht.2 v hv).2
    have hw := mf_w_in (G 16 v)
    refine vc_73 ⟨fun q => ⟨hb, ?_, ?_⟩, fun q => by omega⟩
    · intro q1
      refine tf_rv (sp_77 hD ⟨by decide, by decide⟩ (by omega)) fun G2 h2 => ⟨hb, ?_⟩
      have e16 : G2 16 = G 16 := h2.1.1 16 (by decide) (by decide)
      rw [e16]
      refine tf_re (sp_23 (by omega)) ?_
      refine tf_rv (sp_76 h2.2 ⟨by omega, by omega⟩ (by simp; omega)) fun G3 h3 => ⟨hb, ?_⟩
      have hf3 := h2.1.trans h3.1
      have e163 : G3 16 = G 16 := hf3.1 16 (by decide) (by decide)
      have e203 : G3 20 = G 20 := hf3.1 20 (by decide) (by decide)
      rw [e163]
      refine tf_re (sp_24 (by omega)) ?_
      have eB : xB G3 = xB G := xB_eq e203
      obtain ⟨d', rfl⟩ : ∃ d', d = d' + 1 := by
        cases d with
        | zero => exact False.elim hk
        | succ d' => exact ⟨d', rfl⟩
      have hl3 : (D ++ [83] ++ tnum (G 16 v / 4)).length ≤ D.length + 4 := by
        have := tnum_len (G 16 v / 4)
        simp only [List.length_append, List.length_cons, List.length_nil]
        omega
      refine tf_rv (sp_74 (d := d') (h := G 16) (lst := G 17) (b := xB G) (c := c) hb hw (fun k k0 k1 => by rw [eB]; exact ⟨hc k k0 k1, hk k k0 k1⟩) h3.2 (hs.wf hf3) (by rw [hf3.2 6 (by decide)]; exact hm) (by omega)) ?_
      rintro G4 ⟨f4, D', s', a1, a2, a3, a4, a5, a6⟩
      refine tf_pv ⟨hf3.g.trans f4, D', s', a1, a2, ?_, ?_, by omega, by rw [hf3.2 6 (by decide)] at a6; exact a6⟩
      · rw [a3, e, eB]
        simp only [tS, thead, if_neg q1]
        simp
      · simp only [List.length_append, List.length_cons, List.length_nil] at a4
        omega
    · intro q1
      refine tf_rv (sp_77 hD ⟨by decide, by decide⟩ (by omega)) fun G2 h2 => ⟨hb, ?_⟩
      have e17 : G2 17 = G 17 := h2.1.1 17 (by decide) (by decide)
      rw [e17]
      refine tf_rv (sp_76 h2.2 (hl v hv q1) (by simp; omega)) fun G3 h3 => ?_
      have hf3 := h2.1.trans h3.1
      obtain ⟨d', rfl⟩ : ∃ d', d = d' + 1 := by
        cases d with
        | zero => exact False.elim hk
        | succ d' => exact ⟨d', rfl⟩
      have hl3 := tnum_len (G 17 v)
      refine tf_pv ⟨hf3.g, _, s, h3.2, hs.wf hf3, ?_, ?_, ?_, by rw [hf3.2 6 (by decide)]; omega⟩
      · rw [e]
        have ew : mf_w (G 16 v) = 0 := by unfold mf_w; rw [if_pos q1]
        simp only [tS, thead, if_pos q1, ew]
        simp [tR]
      · simp only [List.length_append, List.length_cons, List.length_nil]
        omega
      · simp only [List.length_append, List.length_cons, List.length_nil]
        omega
theorem xI_len {c : Int} {h lst : Int → Int} {b : Int → Int → Int} {W : Int → Int} {j : Int} {s : List Int} (hi : xI c h lst b W j s) : 1 ≤ s.length := by
  rcases hi with ⟨-, e⟩ | ⟨-, d, hk, e⟩
  · rw [e]; simp
  · cases d with
    | zero => exact False.elim hk
    | succ d =>
      rw [e]
      simp only [tS, thead]
      split <;> simp
theorem stk_len {I : Int → List Int → Prop} (hI : ∀ j s, I j s → 1 ≤ s.length) : ∀ {m : Nat} {s : List Int}, stk I m s → m ≤ s.length := by
  intro m
  induction m with
  | zero => intro s _; exact Nat.zero_le _
  | succ m ih =>
    rintro s ⟨s1, s2, h1, h2, rfl⟩
    have a := hI _ _ h1
    have b := ih h2
    rw [List.length_append]
    omega
theorem sp_26 (h4 : 0 ≤ G 38 4 ∧ G 38 4 ≤ 100000) (h6 : 0 ≤ G 38 6 ∧ G 38 6 ≤ 100000) : tf_RUN l 26 [tf_r 38] G (tf_PI fun r G' => ((r = 1 ∧ G 38 4 + G 38 6 ≤ 200) ∨ (r = 0 ∧ 200 < G 38 4 + G 38 6)) ∧ G' = G) :=
  vc_26 ⟨by omega, fun q => ⟨Or.inl rfl, tf_pi ⟨Or.inr ⟨rfl, q⟩, rfl⟩⟩, fun q => ⟨Or.inr rfl, tf_pi ⟨Or.inl ⟨rfl, q⟩, rfl⟩⟩⟩
theorem sp_71 {top : Int} {d : Nat} (ht : xts c G) (hl : ∀ x, mf_dom c x → G 16 x = -1 → 0 ≤ G 17 x ∧ G 17 x ≤ 999) (hx : mf_dom c top) (hk : tok (G 16) (xB G) d top) :
    tf_RUN l 71 [tf_r 38, tf_i top] G (tf_PI fun r G' => (∀ k : Nat, (k < 38 ∨ 41 < k) → G' k = G k) ∧
      ((r = 1 ∧ (tS (G 16) (G 17) (xB G) d top).length ≤ 200 ∧ G' 38 0 = ((tS (G 16) (G 17) (xB G) d top).length : Int) ∧ wr (G' 39) (tS (G 16) (G 17) (xB G) d top) ∧ ∀ v ∈ tS (G 16) (G 17) (xB G) d top, 0 ≤ v ∧ v ≤ 127) ∨
        (r = 0 ∧ 200 < (tS (G 16) (G 17) (xB G) d top).length ∧ G' 38 0 = G 38 0 ∧ G' 39 = G 39))) := by
  have fin : ∀ (G1 : tf_Sto) (D s : List Int), xwg G G1 → xD D G1 → xSk c (G 16) (G 17) (xB G) G1 s → D ++ s = tS (G 16) (G 17) (xB G) d top → (D.length : Int) ≤ 10000 → G1 38 6 ≤ 10000 → (G1 38 6 ≤ 0 ∨ 200 ≤ D.length ∨ 200 < (D.length : Int) + G1 38 6) →
      tf_RUN l 26 [tf_r 38] G1 (fun o1 G2 => ∃ r3 : Int, o1 = .inl (some (tf_i r3)) ∧ ((r3 ≠ 0 → ((0 ≤ (0 : Int) ∧ 0 ≤ (0 : Int) ∧ 0 ≤ (G2 38 4) ∧ (0 : Int) + (G2 38 4) ≤ 200 ∧ (0 : Int) + (G2 38 4) ≤ 200) ∧ (((1 : Int) = 0 ∨ (1 : Int) = 1) ∧ (tf_PI fun r G' => (∀ k : Nat, (k < 38 ∨ 41 < k) → G' k = G k) ∧
      ((r = 1 ∧ (tS (G 16) (G 17) (xB G) d top).length ≤ 200 ∧ G' 38 0 = ((tS (G 16) (G 17) (xB G) d top).length : Int) ∧ wr (G' 39) (tS (G 16) (G 17) (xB G) d top) ∧ ∀ v ∈ tS (G 16) (G 17) (xB G) d top, 0 ≤ v ∧ v ≤ 127) ∨
        (r = 0 ∧ 200 < (tS (G 16) (G 17) (xB G) d top).length ∧ G' 38 0 = G 38 0 ∧ G' 39 = G 39))) (.inl (some (tf_i 1))) (tf_up (tf_cpy G2 40 39 0 0 (G2 38 4)) 38 0 (G2 38 4))))) ∧ (r3 = 0 → (((0 : Int) = 0 ∨ (0 : Int) = 1) ∧ (tf_PI fun r G' => (∀ k : Nat, (k < 38 ∨ 41 < k) → G' k = G k) ∧
      ((r = 1 ∧ (tS (G 16) (G 17) (xB G) d top).length ≤ 200 ∧ G' 38 0 = ((tS (G 16) (G 17) (xB G) d top).length : Int) ∧ wr (G' 39) (tS (G 16) (G 17) (xB G) d top) ∧ ∀ v ∈ tS (G 16) (G 17) (xB G) d top, 0 ≤ v ∧ v ≤ 127) ∨
        (r = 0 ∧ 200 < (tS (G 16) (G 17) (xB G) d top).length ∧ G' 38 0 = G 38 0 ∧ G' 39 = G 39))) (.inl (some (tf_i 0))) G2)))) := by
    intro G1 D s hf hD hs e hb1 hb2 hor
    have d1 := hD.1
    obtain ⟨m, em, q2⟩ := id hs
    have hsl := stk_len (fun j s z => xI_len z) q2
    refine tf_ri (sp_26 ⟨by omega, by omega⟩ ⟨by omega, by omega⟩) ?_
    rintro r G2 ⟨hr, rfl⟩
    constructor
    · intro q0
      have q : G2 38 4 + G2 38 6 ≤ 200 := by
        rcases hr with z | z
        · exact z.2
        · exact absurd z.1 q0
      have m0 : m = 0 := by
        rcases hor with g | g | g
        · omega
        · omega
        · omega
      subst m0
      refine ⟨⟨by omega, by omega, by omega, by omega, by omega⟩, Or.inr rfl, tf_pi ⟨?_, Or.inl ⟨rfl, ?_⟩⟩⟩
      · intro k hk
        have ec : tf_cpy G2 40 39 0 0 (G2 38 4) k = G2 k := funext fun i => if_neg (fun q => by omega)
        rw [tf_upo (by omega), ec]
        exact hf.1 k (by omega) (by omega) (by omega)
      · have es : s = [] := q2
        have eD : D = tS (G 16) (G 17) (xB G) d top := by rw [← e, es]; simp
        rw [← eD]
        refine ⟨by omega, by rw [tf_up_at, d1], ?_, hD.2.2⟩
        rw [tf_upo (by decide)]
        intro j j2 hj
        have ec : tf_cpy G2 40 39 0 0 (G2 38 4) 39 (j : Int) = G2 40 (0 + ((j : Int) - 0)) := if_pos ⟨rfl, by omega, by omega⟩
        rw [hD.2.1 j j2 hj, ec, show (0 : Int) + ((j : Int) - 0) = j by omega]
    · intro q0
      have q : 200 < G2 38 4 + G2 38 6 := by
        rcases hr with z | z
        · rw [q0] at z; exact absurd z.1 (by decide)
        · exact z.2
      refine ⟨Or.inl rfl, tf_pi ⟨fun k hk => hf.1 k (by omega) (by omega) (by omega), Or.inr ⟨rfl, ?_, hf.2 0 (by decide) (by decide), hf.1 39 (by decide) (by decide) (by decide)⟩⟩⟩
      rw [← e]
      simp only [List.length_append]
      omega
  have loop : ∀ (dd : Nat) (G1 : tf_Sto) (v2 : Int) (D s : List Int), 0 ≤ v2 → v2 + dd = 200 → xwg G G1 → xD D G1 → xSk c (G 16) (G 17) (xB G) G1 s → D ++ s = tS (G 16) (G 17) (xB G) d top → v2 ≤ D.length → (D.length : Int) ≤ 10 * v2 → G1 38 6 ≤ 205 →
      tf_AW l 71 none (tf_PI fun r G' => (∀ k : Nat, (k < 38 ∨ 41 < k) → G' k = G k) ∧
      ((r = 1 ∧ (tS (G 16) (G 17) (xB G) d top).length ≤ 200 ∧ G' 38 0 = ((tS (G 16) (G 17) (xB G) d top).length : Int) ∧ wr (G' 39) (tS (G 16) (G 17) (xB G) d top) ∧ ∀ v ∈ tS (G 16) (G 17) (xB G) d top, 0 ≤ v ∧ v ≤ 127) ∨
        (r = 0 ∧ 200 < (tS (G 16) (G 17) (xB G) d top).length ∧ G' 38 0 = G 38 0 ∧ G' 39 = G 39))) 17 [(0, tf_r 38), (2, tf_i v2)] [] (none, false) G1 := by
    intro dd
    induction dd with
    | zero =>
      intro G1 v2 D s h0 h1 hf hD hs e h2 h3 h4
      exact vc_71_17 ⟨fun q => fin G1 D s hf hD hs e (by omega) (by omega) (Or.inr (Or.inl (by omega))), fun q => by omega⟩
    | succ dd ih =>
      intro G1 v2 D s h0 h1 hf hD hs e h2 h3 h4
      have d1 := hD.1
      obtain ⟨m, em, hst⟩ := id hs
      refine vc_71_17 ⟨fun q => by omega, fun q => tf_ri (sp_26 ⟨by omega, by omega⟩ ⟨by omega, by omega⟩) ?_⟩
      rintro r G1' ⟨hr, rfl⟩
      refine ⟨fun z => fin G1' D s hf hD hs e (by omega) (by omega) (Or.inr (Or.inr (by omega))), fun z => ⟨fun q1 => fin G1' D s hf hD hs e (by omega) (by omega) (Or.inl q1), fun q1 => ?_⟩⟩
      cases m with
      | zero => omega
      | succ m =>
        obtain ⟨s1, s2, i1, i2, i3⟩ := hst
        have em1 : G1' 38 6 - 1 = (m : Int) := by omega
        rw [em1]
        refine ⟨⟨by omega, by omega⟩, ⟨by omega, by omega⟩, ?_⟩
        have e16 : tf_up G1' 38 6 (m : Int) 16 = G 16 := by rw [tf_upo (by decide), hf.1 16 (by decide) (by decide) (by decide)]
        have e17 : tf_up G1' 38 6 (m : Int) 17 = G 17 := by rw [tf_upo (by decide), hf.1 17 (by decide) (by decide) (by decide)]
        have e20 : tf_up G1' 38 6 (m : Int) 20 = G 20 := by rw [tf_upo (by decide), hf.1 20 (by decide) (by decide) (by decide)]
        have eB : xB (tf_up G1' 38 6 (m : Int)) = xB G := xB_eq e20
        have r := sp_73 (l := l) (G := tf_up G1' 38 6 (m : Int)) (c := c) (D := D) (v := G1' 41 (m : Int)) (s1 := s1) (s := s2) (ht.fr e16 e20) (by rw [e16, e17]; exact hl) (by rw [e16, e17, eB]; exact i1)
          ⟨by rw [tf_up_eq, if_neg (by decide)]; exact hD.1, by rw [tf_upo (by decide)]; exact hD.2.1, hD.2.2⟩ ⟨m, tf_up_at, by rw [e16, e17, eB, tf_upo (by decide)]; exact i2⟩ (by rw [tf_up_at]; omega) (by omega)
        refine tf_rv r ?_
        rintro G2 ⟨f2, D', s', a1, a2, a3, a4, a5, a6⟩
        rw [e16, e17, eB] at a2
        rw [tf_up_at] at a6
        have f3 : xwg G1' (tf_up G1' 38 6 (m : Int)) := ⟨fun k k1 _ _ => tf_upo k1, fun j j1 j2 => by rw [tf_up_eq, if_neg j2]⟩
        refine ⟨⟨by omega, by omega⟩, ih G2 (v2 + 1) D' s' (by omega) (by omega) (hf.trans (f3.trans f2)) a1 a2 ?_ (by omega) (by omega) (by omega)⟩
        rw [a3, ← e, i3]
  refine vc_71 ?_
  have g0 : tf_up (tf_up G 38 4 0) 38 6 0 38 6 = 0 := tf_up_at
  refine tf_rv (sp_75 (by rw [g0]; exact ⟨by decide, by decide⟩)) fun G2 h2 => ?_
  subst h2
  have f3 : xwg G (tf_up (tf_up G 38 4 0) 38 6 0) := ⟨fun k k1 _ _ => by rw [tf_upo k1, tf_upo k1], fun j j1 j2 => by rw [tf_up_eq, if_neg j2, tf_up_eq, if_neg j1]⟩
  have hD0 : xD [] (tf_up (tf_up G 38 4 0) 38 6 0) := ⟨by rw [tf_up_eq, if_neg (by decide), tf_up_at]; rfl, wr_nil, by simp⟩
  have hs0 : xSk c (G 16) (G 17) (xB G) (tf_up (tf_up G 38 4 0) 38 6 0) [] := ⟨0, g0, rfl⟩
  refine loop 200 _ 0 [] _ (by omega) (by omega) (f3.trans xwg.psh) hD0.psh (xSk.push hs0 (Or.inr ⟨hx, d, hk, rfl⟩)) (by simp) (by simp) (by simp) ?_
  rw [tf_up_at, g0]
  decide
end
