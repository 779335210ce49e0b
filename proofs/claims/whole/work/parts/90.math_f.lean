/-- the trees of the terms, as numbered by f -/
def tsys (n : Int) (hd : Int → Int) (ch : Int → Int → Int) (E : List (Int × Int)) (c : Int) (h : Int → Int) (b : Int → Int → Int) (f : Int → Int) : Prop :=
  0 ≤ c ∧ mf_sol n hd ch (mf_T n hd ch E) c f ∧ ∃ rt sh : Int → Int, mf_rep n hd ch E rt sh ∧ ∀ t, mf_dom n t → h (f t) = mh hd rt sh t ∧ ∀ k, 0 ≤ k → k < mf_w (mh hd rt sh t) → b (f t) k = f (mc ch rt sh t k)
def tiso (c : Int) (h : Int → Int) (b : Int → Int → Int) (c' : Int) (h' : Int → Int) (b' : Int → Int → Int) (R : Int → Int → Prop) : Prop :=
  (∀ x, mf_dom c x → ∃ y, mf_dom c' y ∧ R x y) ∧ (∀ y, mf_dom c' y → ∃ x, mf_dom c x ∧ R x y) ∧ (∀ x y, R x y → mf_dom c x ∧ mf_dom c' y ∧ h' y = h x ∧ ∀ k, 0 ≤ k → k < mf_w (h x) → R (b x k) (b' y k)) ∧ (∀ x y y', R x y → R x y' → y = y') ∧ ∀ x x' y, R x y → R x' y → x = x'
section
variable {n : Int} {hd : Int → Int} {ch : Int → Int → Int} {E : List (Int × Int)} {c c' : Int} {h h' : Int → Int} {b b' : Int → Int → Int} {f f' : Int → Int} {R : Int → Int → Prop}
theorem tiso.flip (hi : tiso c h b c' h' b' R) : tiso c' h' b' c h b (fun y x => R x y) := by
  obtain ⟨i1, i2, i3, i4, i5⟩ := hi
  refine ⟨i2, i1, ?_, fun x y y' a d => i5 _ _ _ a d, fun x y y' a d => i4 _ _ _ a d⟩
  intro x y hr
  obtain ⟨q1, q2, q3, q4⟩ := i3 y x hr
  exact ⟨q2, q1, q3.symm, fun k k0 k1 => q4 k k0 (by rw [← q3]; exact k1)⟩
theorem mh_two {rt sh rt' sh' : Int → Int} (hr : mf_rep n hd ch E rt sh) (hr' : mf_rep n hd ch E rt' sh') (hcon : mf_con n hd ch E) {t : Int} (ht : mf_dom n t) :
    mh hd rt sh t = mh hd rt' sh' t ∧ ∀ k, 0 ≤ k → k < mf_w (mh hd rt sh t) → mf_T n hd ch E (mc ch rt sh t k) (mc ch rt' sh' t k) := by
  have e1 := mf_lf_iff hr ht
  have e2 := mf_lf_iff hr' ht
  have q := (hr.1 t ht).2.2
  have q' := (hr'.1 t ht).2.2
  by_cases hs : sh (rt t) = -1
  · have hs' : sh' (rt' t) = -1 := e2.1 (e1.2 hs)
    constructor
    · simp only [mh, if_pos hs, if_pos hs']
    · intro k k0 k1
      simp only [mh, if_pos hs, mf_w, if_true] at k1
      omega
  · have hs' : sh' (rt' t) ≠ -1 := fun q => hs (e1.1 (e2.2 q))
    rcases q with ⟨q, _⟩ | ⟨d1, d2, d3⟩
    · exact absurd q hs
    rcases q' with ⟨q, _⟩ | ⟨d1', d2', d3'⟩
    · exact absurd q hs'
    have t1 : mf_T n hd ch E (sh (rt t)) t := (hr.2 _ _ d1 ht).1 d2
    have t2 : mf_T n hd ch E (sh' (rt' t)) t := (hr'.2 _ _ d1' ht).1 d2'
    have t3 : mf_T n hd ch E (sh (rt t)) (sh' (rt' t)) := mf_T_eqv.2.2 _ _ _ t1 (mf_T_eqv.2.1 _ _ t2)
    have e := hcon _ _ d1 d1' t3 d3 d3'
    constructor
    · simp only [mh, if_neg hs, if_neg hs', e]
    · intro k k0 k1
      simp only [mh, if_neg hs, mf_w] at k1
      have : k < hd (sh (rt t)) % 4 := by
        split at k1
        · omega
        · exact k1
      exact mf_T_dec _ _ d1 d1' t3 d3 e k k0 this
theorem tsys.iso (hs : tsys n hd ch E c h b f) (hs' : tsys n hd ch E c' h' b' f') (hcon : mf_con n hd ch E) (hw : mf_wf n hd ch) : tiso c h b c' h' b' (fun x y => ∃ t, mf_dom n t ∧ f t = x ∧ f' t = y) := by
  obtain ⟨c0, s1, rt, sh, r1, q1⟩ := hs
  obtain ⟨c0', s1', rt', sh', r1', q1'⟩ := hs'
  refine ⟨?_, ?_, ?_, ?_, ?_⟩
  · intro x hx
    obtain ⟨t, ht, e⟩ := s1.1.2 x hx
    exact ⟨f' t, s1'.1.1 t ht, t, ht, e, rfl⟩
  · intro x hx
    obtain ⟨t, ht, e⟩ := s1'.1.2 x hx
    exact ⟨f t, s1.1.1 t ht, t, ht, rfl, e⟩
  · rintro x y ⟨t, ht, rfl, rfl⟩
    obtain ⟨m1, m2⟩ := mh_two r1 r1' hcon ht
    refine ⟨s1.1.1 t ht, s1'.1.1 t ht, by rw [(q1 t ht).1, (q1' t ht).1, m1], ?_⟩
    intro k k0 k1
    rw [(q1 t ht).1] at k1
    have d1 := (mc_dom r1.1 hw ht k0 k1).1
    have d2 := (mc_dom r1'.1 hw ht k0 (m1 ▸ k1)).1
    refine ⟨mc ch rt sh t k, d1, ((q1 t ht).2 k k0 k1).symm, ?_⟩
    rw [(q1' t ht).2 k k0 (m1 ▸ k1)]
    exact s1'.2.2.1 _ _ d1 d2 (m2 k k0 k1)
  · rintro x y y' ⟨t, ht, rfl, rfl⟩ ⟨t', ht', e, rfl⟩
    exact (mf_sol_iff s1 s1' ht ht').1 e.symm
  · rintro x x' y ⟨t, ht, rfl, rfl⟩ ⟨t', ht', rfl, e⟩
    exact (mf_sol_iff s1 s1' ht ht').2 e.symm
theorem tiso.fin (hi : tiso c h b c' h' b' R) {x y : Int} (hr : R x y) (ht : tfin c h b x) : tfin c' h' b' y := by
  refine ht (fun x => ∀ y, R x y → tfin c' h' b' y) ?_ y hr
  intro x hx hc y hr
  obtain ⟨d1, d2, e, q⟩ := hi.2.2.1 x y hr
  exact tfin_in d2 fun k k0 k1 => hc k k0 (e ▸ k1) _ (q k k0 (e ▸ k1))
theorem tiso.fin_iff (hi : tiso c h b c' h' b' R) {x y : Int} (hr : R x y) : tfin c h b x ↔ tfin c' h' b' y := ⟨hi.fin hr, hi.flip.fin hr⟩
def tmeas (c : Int) (h : Int → Int) (b : Int → Int → Int) (sz dp : Int → Int) : Prop := ∀ x, mf_dom c x → tfin c h b x → sz x = mf_szs sz (b x) (mf_w (h x)) ∧ dp x = if h x = -1 then 0 else mf_dps dp (b x) (mf_w (h x))
theorem tiso.meas (hi : tiso c h b c' h' b' R) {sz dp sz' dp' : Int → Int} (hm : tmeas c h b sz dp) (hm' : tmeas c' h' b' sz' dp') {x y : Int} (hr : R x y) (ht : tfin c h b x) : sz x = sz' y ∧ dp x = dp' y := by
  have main : tfin c h b x ∧ ∀ y, R x y → sz x = sz' y ∧ dp x = dp' y := by
    refine ht (fun x => tfin c h b x ∧ ∀ y, R x y → sz x = sz' y ∧ dp x = dp' y) ?_
    intro x hx hc
    have hf : tfin c h b x := tfin_in hx fun k k0 k1 => (hc k k0 k1).1
    refine ⟨hf, ?_⟩
    intro y hr
    obtain ⟨d1, d2, e, q⟩ := hi.2.2.1 x y hr
    obtain ⟨a1, a2⟩ := hm x hx hf
    obtain ⟨b1, b2⟩ := hm' y d2 (hi.fin hr hf)
    rw [a1, b1, a2, b2, e]
    have g1 : ∀ k, 0 ≤ k → k < mf_w (h x) → sz (b x k) = sz' (b' y k) := fun k k0 k1 => ((hc k k0 k1).2 _ (q k k0 k1)).1
    have g2 : ∀ k, 0 ≤ k → k < mf_w (h x) → dp (b x k) = dp' (b' y k) := fun k k0 k1 => ((hc k k0 k1).2 _ (q k k0 k1)).2
    rw [mf_szs_congr g1, mf_dps_congr g2]
    exact ⟨rfl, rfl⟩
  exact main.2 y hr
theorem tiso.reach (hi : tiso c h b c' h' b' R) {x y z w : Int} (hr : R x y) (hz : R z w) (ht : treach c h b x z) : treach c' h' b' y w := by
  have main : ∃ w, R z w ∧ treach c' h' b' y w := by
    refine ht (fun z => ∃ w, R z w ∧ treach c' h' b' y w) ⟨y, hr, fun P p _ => p⟩ ?_
    rintro z hz ⟨w, q1, q2⟩ k k0 k1
    obtain ⟨d1, d2, e, q⟩ := hi.2.2.1 z w q1
    exact ⟨b' w k, q k k0 k1, treach_in d2 q2 k0 (e ▸ k1)⟩
  obtain ⟨w', q1, q2⟩ := main
  rw [hi.2.2.2.1 _ _ _ hz q1]
  exact q2
theorem tiso.reach_iff (hi : tiso c h b c' h' b' R) {x y z w : Int} (hr : R x y) (hz : R z w) : treach c h b x z ↔ treach c' h' b' y w := ⟨hi.reach hr hz, hi.flip.reach hr hz⟩
theorem tiso.valid (hi : tiso c h b c' h' b' R) {x y x' y' : Int} (hx : R x x') (hy : R y y') (hm : tmatch c h b x y) : tmatch c' h' b' x' y' := by
  obtain ⟨C, v1, v2, v3, v4⟩ := hm
  refine ⟨fun u v => ∃ a d, C a d ∧ R a u ∧ R d v, ⟨x, y, v1, hx, hy⟩, ?_, ?_, ?_⟩
  · rintro u v ⟨a, d, q, r1, r2⟩
    exact ⟨(hi.2.2.1 _ _ r1).2.1, (hi.2.2.1 _ _ r2).2.1⟩
  · rintro u v ⟨a, d, q, r1, r2⟩ hu
    obtain ⟨_, _, e1, q1⟩ := hi.2.2.1 _ _ r1
    obtain ⟨_, _, e2, q2⟩ := hi.2.2.1 _ _ r2
    rw [e1] at hu
    obtain ⟨w1, w2⟩ := v3 a d q hu
    refine ⟨by rw [e1, e2, w1], ?_⟩
    intro k k0 k1
    rw [e1] at k1
    exact ⟨_, _, w2 k k0 k1, q1 k k0 k1, q2 k k0 (w1 ▸ k1)⟩
  · rintro u v v' ⟨a, d, q, r1, r2⟩ ⟨a', d', q', r1', r2'⟩ hu
    have e := hi.2.2.2.2 _ _ _ r1 r1'
    subst e
    rw [(hi.2.2.1 _ _ r1).2.2.1] at hu
    have e2 := v4 _ _ _ q q' hu
    subst e2
    exact hi.2.2.2.1 _ _ _ r2 r2'
theorem tiso.match_iff (hi : tiso c h b c' h' b' R) {x y x' y' : Int} (hx : R x x') (hy : R y y') : tmatch c h b x y ↔ tmatch c' h' b' x' y' := ⟨hi.valid hx hy, hi.flip.valid hx hy⟩
theorem tiso.pr (hi : tiso c h b c' h' b' R) {x y x' y' a d a' d' : Int} (hx : R x x') (hy : R y y') (ha : R a a') (hd : R d d') (hm : tpr c h b x y a d) : tpr c' h' b' x' y' a' d' := by
  have main : ∃ a' d', R a a' ∧ R d d' ∧ tpr c' h' b' x' y' a' d' := by
    refine hm (fun a d => ∃ a' d', R a a' ∧ R d d' ∧ tpr c' h' b' x' y' a' d') ⟨x', y', hx, hy, fun P p _ => p⟩ ?_
    rintro a d hda hdd ⟨a', d', r1, r2, q⟩ hl he k k0 k1
    obtain ⟨_, da, e1, q1⟩ := hi.2.2.1 _ _ r1
    obtain ⟨_, dd, e2, q2⟩ := hi.2.2.1 _ _ r2
    refine ⟨_, _, q1 k k0 k1, q2 k k0 (he ▸ k1), ?_⟩
    intro P p0 p1
    exact p1 a' d' da dd (q P p0 p1) (by rw [e1]; exact hl) (by rw [e1, e2, he]) k k0 (by rw [e1]; exact k1)
  obtain ⟨a2, d2, r1, r2, q⟩ := main
  rw [hi.2.2.2.1 _ _ _ ha r1, hi.2.2.2.1 _ _ _ hd r2]
  exact q
theorem tiso.pr_dom (hi : tiso c h b c' h' b' R) {x y a d : Int} (hx : mf_dom c x) (hy : mf_dom c y) (hm : tpr c h b x y a d) : mf_dom c a ∧ mf_dom c d := by
  refine hm (fun a d => mf_dom c a ∧ mf_dom c d) ⟨hx, hy⟩ ?_
  rintro a d hda hdd _ hl he k k0 k1
  obtain ⟨a', _, r1⟩ := hi.1 a hda
  obtain ⟨d', _, r2⟩ := hi.1 d hdd
  obtain ⟨_, da, e1, q1⟩ := hi.2.2.1 _ _ r1
  obtain ⟨_, dd, e2, q2⟩ := hi.2.2.1 _ _ r2
  exact ⟨(hi.2.2.1 _ _ (q1 k k0 k1)).1, (hi.2.2.1 _ _ (q2 k k0 (he ▸ k1))).1⟩
theorem tsys.cnt (hs : tsys n hd ch E c h b f) (hs' : tsys n hd ch E c' h' b' f') {P P' : Int → Prop} (hp : ∀ t, mf_dom n t → (P (f t) ↔ P' (f' t))) : mf_cnt P c.toNat = mf_cnt P' c'.toNat := by
  obtain ⟨c0, s1, _⟩ := hs
  obtain ⟨c0', s1', _⟩ := hs'
  rw [mf_cnt_ids (D := fun _ => True) (n := n.toNat) (f := f) (P := P) (c := c.toNat), mf_cnt_ids (D := fun _ => True) (n := n.toNat) (f := f') (P := P') (c := c'.toNat)]
  · refine mf_cnt_congr ?_
    intro t t0 t1
    have ht : mf_dom n t := mf_nat_dom t0 t1
    have e : ∀ s, 0 ≤ s → s < t → (f s = f t ↔ f' s = f' t) := fun s s0 s1' => mf_sol_iff s1 (by assumption) ⟨s0, by have := ht.2; omega⟩ ht
    constructor
    · rintro ⟨⟨_, q⟩, p⟩
      exact ⟨⟨trivial, fun s s0 s1 _ hk => q s s0 s1 trivial ((e s s0 s1).2 hk)⟩, (hp t ht).1 p⟩
    · rintro ⟨⟨_, q⟩, p⟩
      exact ⟨⟨trivial, fun s s0 s1 _ hk => q s s0 s1 trivial ((e s s0 s1).1 hk)⟩, (hp t ht).2 p⟩
  · intro t t0 t1 _
    have := s1'.1.1 t (mf_nat_dom t0 t1)
    exact ⟨this.1, mf_dom_nat this⟩
  · intro k k0 k1 _
    obtain ⟨t, ht, e⟩ := s1'.1.2 k (mf_nat_dom k0 k1)
    exact ⟨t, ht.1, mf_dom_nat ht, trivial, e⟩
  · intro t t0 t1 _
    have := s1.1.1 t (mf_nat_dom t0 t1)
    exact ⟨this.1, mf_dom_nat this⟩
  · intro k k0 k1 _
    obtain ⟨t, ht, e⟩ := s1.1.2 k (mf_nat_dom k0 k1)
    exact ⟨t, ht.1, mf_dom_nat ht, trivial, e⟩
def tcode (f : Int → Int) (q : Int) : Int := 300 * f (q / 300) + f (q % 300)
theorem tcode_in {c : Int} (hc : c ≤ 300) {f : Int → Int} {q : Int} (h1 : mf_dom c (f (q / 300))) (h2 : mf_dom c (f (q % 300))) : (0 ≤ tcode f q ∧ tcode f q < 90000) ∧ tcode f q / 300 = f (q / 300) ∧ tcode f q % 300 = f (q % 300) := by
  have a1 := h1.1
  have a2 := h1.2
  have a3 := h2.1
  have a4 := h2.2
  unfold tcode
  refine ⟨⟨by omega, by omega⟩, by omega, by omega⟩
theorem tsys.cnt2 (hs : tsys n hd ch E c h b f) (hs' : tsys n hd ch E c' h' b' f') (hn : n ≤ 300) (hc : c ≤ 300) (hc' : c' ≤ 300) {P P' : Int → Prop}
    (hd1 : ∀ q, 0 ≤ q → q < 90000 → P q → mf_dom c (q / 300) ∧ mf_dom c (q % 300)) (hd2 : ∀ q, 0 ≤ q → q < 90000 → P' q → mf_dom c' (q / 300) ∧ mf_dom c' (q % 300))
    (hp : ∀ q, mf_dom n (q / 300) → mf_dom n (q % 300) → (P (tcode f q) ↔ P' (tcode f' q))) : mf_cnt P mK = mf_cnt P' mK := by
  obtain ⟨c0, s1, _⟩ := hs
  obtain ⟨c0', s1', _⟩ := hs'
  have hK := mK_int
  have gen : ∀ {c : Int} {f : Int → Int} {P : Int → Prop}, c ≤ 300 → mf_Num n c f → (∀ q, 0 ≤ q → q < 90000 → P q → mf_dom c (q / 300) ∧ mf_dom c (q % 300)) →
      mf_cnt P mK = mf_cnt (fun t => mf_fst (fun q => mf_dom n (q / 300) ∧ mf_dom n (q % 300)) (fun a b => tcode f a = tcode f b) t ∧ P (tcode f t)) mK := by
    intro c f P hc hN hd
    refine mf_cnt_ids (D := fun q => mf_dom n (q / 300) ∧ mf_dom n (q % 300)) (n := mK) (f := tcode f) (P := P) (c := mK) ?_ ?_
    · intro t t0 t1 ht
      have := tcode_in hc (hN.1 _ ht.1) (hN.1 _ ht.2)
      rw [hK]
      exact this.1
    · intro k k0 k1 hk
      rw [hK] at k1
      obtain ⟨d1, d2⟩ := hd k k0 k1 hk
      obtain ⟨s, hs, es⟩ := hN.2 _ d1
      obtain ⟨t, ht, et⟩ := hN.2 _ d2
      have g1 : (300 * s + t) / 300 = s := by have := ht.1; have := ht.2; omega
      have g2 : (300 * s + t) % 300 = t := by have := ht.1; have := ht.2; omega
      refine ⟨300 * s + t, ?_, ?_, ⟨?_, ?_⟩, ?_⟩
      · have := hs.1; have := ht.1; omega
      · rw [hK]; have := hs.2; have := ht.2; omega
      · rw [g1]; exact hs
      · rw [g2]; exact ht
      · unfold tcode
        rw [g1, g2, es, et]
        omega
  rw [gen hc s1.1 hd1, gen hc' s1'.1 hd2]
  refine mf_cnt_congr ?_
  intro t t0 t1
  have ker : ∀ s, (mf_dom n (s / 300) ∧ mf_dom n (s % 300)) → (mf_dom n (t / 300) ∧ mf_dom n (t % 300)) → (tcode f s = tcode f t ↔ tcode f' s = tcode f' t) := by
    intro s hs ht
    have a1 := tcode_in hc (s1.1.1 _ hs.1) (s1.1.1 _ hs.2)
    have a2 := tcode_in hc (s1.1.1 _ ht.1) (s1.1.1 _ ht.2)
    have b1 := tcode_in hc' (s1'.1.1 _ hs.1) (s1'.1.1 _ hs.2)
    have b2 := tcode_in hc' (s1'.1.1 _ ht.1) (s1'.1.1 _ ht.2)
    have e1 := mf_sol_iff s1 s1' hs.1 ht.1
    have e2 := mf_sol_iff s1 s1' hs.2 ht.2
    constructor
    · intro e
      have u1 : f (s / 300) = f (t / 300) := by rw [← a1.2.1, ← a2.2.1, e]
      have u2 : f (s % 300) = f (t % 300) := by rw [← a1.2.2, ← a2.2.2, e]
      unfold tcode
      rw [e1.1 u1, e2.1 u2]
    · intro e
      have u1 : f' (s / 300) = f' (t / 300) := by rw [← b1.2.1, ← b2.2.1, e]
      have u2 : f' (s % 300) = f' (t % 300) := by rw [← b1.2.2, ← b2.2.2, e]
      unfold tcode
      rw [e1.2 u1, e2.2 u2]
  constructor
  · rintro ⟨⟨q0, q⟩, p⟩
    exact ⟨⟨q0, fun s s0 s1 hs hk => q s s0 s1 hs ((ker s hs q0).2 hk)⟩, (hp t q0.1 q0.2).1 p⟩
  · rintro ⟨⟨q0, q⟩, p⟩
    exact ⟨⟨q0, fun s s0 s1 hs hk => q s s0 s1 hs ((ker s hs q0).1 hk)⟩, (hp t q0.1 q0.2).2 p⟩
theorem tsys.com (hs : tsys n hd ch E c h b f) (hs' : tsys n hd ch E c' h' b' f') (hcon : mf_con n hd ch E) (hw : mf_wf n hd ch) (hn : n ≤ 300) (hc : c ≤ 300) (hc' : c' ≤ 300) {u v what : Int} (hu : mf_dom n u) (hv : mf_dom n v) :
    tcom c h b (f u) (f v) what = tcom c' h' b' (f' u) (f' v) what := by
  have hi := tsys.iso hs hs' hcon hw
  have ru : ∃ t, mf_dom n t ∧ f t = f u ∧ f' t = f' u := ⟨u, hu, rfl, rfl⟩
  have rv : ∃ t, mf_dom n t ∧ f t = f v ∧ f' t = f' v := ⟨v, hv, rfl, rfl⟩
  have k1 : ∀ q, mf_dom n (q / 300) → mf_dom n (q % 300) → (tpr c h b (f u) (f v) (tcode f q / 300) (tcode f q % 300) ↔ tpr c' h' b' (f' u) (f' v) (tcode f' q / 300) (tcode f' q % 300)) := by
    intro q h1 h2
    rw [(tcode_in hc (hs.2.1.1.1 _ h1) (hs.2.1.1.1 _ h2)).2.1, (tcode_in hc (hs.2.1.1.1 _ h1) (hs.2.1.1.1 _ h2)).2.2, (tcode_in hc' (hs'.2.1.1.1 _ h1) (hs'.2.1.1.1 _ h2)).2.1, (tcode_in hc' (hs'.2.1.1.1 _ h1) (hs'.2.1.1.1 _ h2)).2.2]
    exact ⟨hi.pr ru rv ⟨_, h1, rfl, rfl⟩ ⟨_, h2, rfl, rfl⟩, hi.flip.pr ru rv ⟨_, h1, rfl, rfl⟩ ⟨_, h2, rfl, rfl⟩⟩
  have k2 : ∀ q, mf_dom n (q / 300) → mf_dom n (q % 300) → (tal h (tcode f q) ↔ tal h' (tcode f' q)) := by
    intro q h1 h2
    unfold tal
    rw [(tcode_in hc (hs.2.1.1.1 _ h1) (hs.2.1.1.1 _ h2)).2.1, (tcode_in hc (hs.2.1.1.1 _ h1) (hs.2.1.1.1 _ h2)).2.2, (tcode_in hc' (hs'.2.1.1.1 _ h1) (hs'.2.1.1.1 _ h2)).2.1, (tcode_in hc' (hs'.2.1.1.1 _ h1) (hs'.2.1.1.1 _ h2)).2.2]
    rw [(hi.2.2.1 (f (q / 300)) (f' (q / 300)) ⟨_, h1, rfl, rfl⟩).2.2.1, (hi.2.2.1 (f (q % 300)) (f' (q % 300)) ⟨_, h2, rfl, rfl⟩).2.2.1]
  unfold tcom
  split
  · refine tsys.cnt2 hs hs' hn hc hc' ?_ ?_ k1
    · intro q _ _ p
      exact hi.pr_dom (hs.2.1.1.1 _ hu) (hs.2.1.1.1 _ hv) p
    · intro q _ _ p
      exact hi.flip.pr_dom (hs'.2.1.1.1 _ hu) (hs'.2.1.1.1 _ hv) p
  · refine tsys.cnt2 hs hs' hn hc hc' ?_ ?_ ?_
    · intro q _ _ p
      exact hi.pr_dom (hs.2.1.1.1 _ hu) (hs.2.1.1.1 _ hv) p.1
    · intro q _ _ p
      exact hi.flip.pr_dom (hs'.2.1.1.1 _ hu) (hs'.2.1.1.1 _ hv) p.1
    · intro q h1 h2
      rw [k1 q h1 h2, k2 q h1 h2]
/-- the least term of a tree -/
def tlst (n : Int) (f : Int → Int) (x v : Int) : Prop := mf_dom n v ∧ f v = x ∧ ∀ s, 0 ≤ s → s < v → f s ≠ x
theorem tsys.lst (hs : tsys n hd ch E c h b f) (hs' : tsys n hd ch E c' h' b' f') {x y v v' : Int} (hr : ∃ t, mf_dom n t ∧ f t = x ∧ f' t = y) (h1 : tlst n f x v) (h2 : tlst n f' y v') : v = v' := by
  obtain ⟨t, ht, e, e'⟩ := hr
  subst e
  subst e'
  obtain ⟨a1, a2, a3⟩ := h1
  obtain ⟨b1, b2, b3⟩ := h2
  have g1 := (mf_sol_iff hs.2.1 hs'.2.1 a1 ht).1 a2
  have g2 := (mf_sol_iff hs.2.1 hs'.2.1 b1 ht).2 b2
  rcases Int.lt_trichotomy v v' with q | q | q
  · exact absurd g1 (b3 v a1.1 q)
  · exact q
  · exact absurd g2 (a3 v' b1.1 q)
theorem tsys.num (hs : tsys n hd ch E c h b f) (hs' : tsys n hd ch E c' h' b' f') : c = c' := by
  have e := tsys.cnt hs hs' (P := fun _ => True) (P' := fun _ => True) (fun _ _ => Iff.rfl)
  rw [mf_cnt_all, mf_cnt_all] at e
  have := hs.1
  have := hs'.1
  omega
end
