-- SPEC P: the class: all trees
section
variable {l : Launch} {n : Int} {hd : Int → Int} {ch : Int → Int → Int} {rt sh : Int → Int}
theorem mf_ck_flip {h r : Int → Int} {c : Int → Int → Int} {B : Int → Int → Prop} (hB : mf_ck n h r c B) : mf_ck n h r c (fun s t => B t s) := by
  intro s t hs ht q
  obtain ⟨h1, h2, h3⟩ := hB t s ht hs q
  exact ⟨h1.symm, fun z => (h2 (h1.trans z)).symm, fun k k0 k1 => h3 k k0 (by rw [h1]; exact k1)⟩
theorem mh_rt (hp : mf_par n hd rt sh) {t : Int} (ht : mf_dom n t) : mh hd rt sh (rt t) = mh hd rt sh t := by unfold mh; rw [(hp t ht).2.1]
theorem mc_rt (hp : mf_par n hd rt sh) {t k : Int} (ht : mf_dom n t) : mc ch rt sh (rt t) k = mc ch rt sh t k := by unfold mc; rw [(hp t ht).2.1]
set_option maxHeartbeats 1000000 in
theorem xFF.max {F : tf_Sto} (hF : xFF n hd ch rt sh F) {B : Int → Int → Prop} (hB : mf_ck n (mh hd rt sh) rt (mc ch rt sh) B) {s t : Int} (hs : mf_dom n s) (ht : mf_dom n t) (hb : B s t) (hd1 : mf_dom (F 15 1) (F 26 (rt s))) : F 26 (rt t) = F 26 (rt s) := by
  have hx := hF.1
  have hfi := hF.2.1
  have hc := hF.2.2.2.1
  have key : ∀ (d : Nat) (s t : Int), mf_dom n s → mf_dom n t → B s t → mf_dom (F 15 1) (F 26 (rt s)) → F 26 (rt s) < d → F 26 (rt t) = F 26 (rt s) := by
    intro d
    induction d with
    | zero => intro s t hs ht hb h1 h2; have := h1.1; omega
    | succ d ih =>
      intro s t hs ht hb h1 h2
      obtain ⟨b1, b2, b3⟩ := hB s t hs ht hb
      by_cases hl : mh hd rt sh s = -1
      · rw [b2 hl]
      · obtain ⟨p1, p2, -⟩ := hx.par s hs
        obtain ⟨q1, q2, -⟩ := hx.par t ht
        have ms := mh_rt hx.par hs
        have mt := mh_rt hx.par ht
        have hrs : xrs n hd ch rt sh (F 15 1) F (rt s) := by
          rcases hF.two p1 p2 with z | z
          · exact z.2
          · rw [z.1] at h1; have := h1.1; omega
        obtain ⟨x1, x2, x3, x4⟩ := hrs
        have hid := (hfi.2.2.1 _ (by rw [← hc]; exact x1)).2.2
        have hid' : (∀ k, 0 ≤ k → k < mf_w (mh hd rt sh s) → mf_dom (F 26 (rt s)) (F 20 (F 26 (rt s) * 3 + k))) ∧ (∀ k, mf_w (mh hd rt sh s) ≤ k → k < 3 → F 20 (F 26 (rt s) * 3 + k) = -1) := by
          rcases hid with z | z
          · rw [x2, ms] at z; exact absurd z.1 hl
          · rw [x2, ms] at z; exact ⟨z.2.2.1, z.2.2.2.1⟩
        rw [ms] at x4
        have hch : ∀ k, 0 ≤ k → k < mf_w (mh hd rt sh s) → F 26 (rt (mc ch rt sh t k)) = F 26 (rt (mc ch rt sh s k)) ∧ 0 ≤ F 26 (rt (mc ch rt sh s k)) := by
          intro k k0 k1
          have e1 := x4 k k0 k1
          rw [mc_rt hx.par hs] at e1
          have e2 := hid'.1 k k0 k1
          rw [e1] at e2
          have d1 := (mc_dom hx.par hx.2.2.1 hs k0 k1).1
          have d2 := (mc_dom hx.par hx.2.2.1 ht k0 (by rw [← b1]; exact k1)).1
          have e3 := e2.2
          have x1' := x1.2
          exact ⟨ih _ _ d1 d2 (b3 k k0 k1) ⟨e2.1, by omega⟩ (by omega), e2.1⟩
        rcases hF.two q1 q2 with ⟨z1, z2⟩ | ⟨z1, j, j1, j2⟩
        · obtain ⟨y1, y2, y3, y4⟩ := z2
          rw [mt] at y4
          have hidy := (hfi.2.2.1 _ (by rw [← hc]; exact y1)).2.2
          have hidy' : ∀ k, mf_w (mh hd rt sh t) ≤ k → k < 3 → F 20 (F 26 (rt t) * 3 + k) = -1 := by
            rcases hidy with z | z
            · rw [y2, mt, ← b1] at z; exact absurd z.1 hl
            · rw [y2, mt] at z; exact z.2.2.2.1
          refine hfi.2.2.2.1 _ _ (by rw [← hc]; exact y1) (by rw [← hc]; exact x1) ?_ ?_ (fun k k0 k1 => ?_)
          · rw [y2, mt, ← b1]; exact hl
          · rw [x2, y2, ms, mt, b1]
          · by_cases kw : k < mf_w (mh hd rt sh s)
            · rw [x4 k k0 kw, y4 k k0 (by rw [← b1]; exact kw), mc_rt hx.par hs, mc_rt hx.par ht]
              exact (hch k k0 kw).1
            · rw [hid'.2 k (by omega) k1, hidy' k (by rw [← b1]; omega) k1]
        · exfalso
          obtain ⟨k, k0, k1, k2⟩ := hF.2.2.2.2 j j1
          rw [j2, mt, ← b1] at k1
          rw [j2, mc_rt hx.par ht] at k2
          obtain ⟨h3, h4⟩ := hch k k0 k1
          omega
  have h1 := hd1.1
  exact key ((F 26 (rt s)).toNat + 1) s t hs ht hb hd1 (by omega)
/-- the trees are found -/
def xFV (n : Int) (hd : Int → Int) (ch : Int → Int → Int) (rt sh : Int → Int) (G : tf_Sto) : Prop := (0 ≤ G 15 1 ∧ G 15 1 ≤ G 15 0 ∧ G 15 0 ≤ n) ∧ (∀ t, mf_dom n t → G 25 t = rt t) ∧ (∀ r, mf_dom n r → rt r = r → xrs n hd ch rt sh (G 15 0) G r) ∧ (∀ x, mf_dom (G 15 0) x → ∃ r, mf_dom n r ∧ rt r = r ∧ G 26 r = x) ∧
  (∀ B, mf_ck n (mh hd rt sh) rt (mc ch rt sh) B → ∀ s t, mf_dom n s → mf_dom n t → B s t → G 26 (rt s) = G 26 (rt t)) ∧ xid (G 15 1) G ∧ ∀ x, G 15 1 ≤ x → x < G 15 0 → 0 ≤ G 16 x ∧ ∃ k, 0 ≤ k ∧ k < mf_w (G 16 x) ∧ G 15 1 ≤ G 20 (x * 3 + k)
/-- between two rounds -/
def xK (n : Int) (hd : Int → Int) (ch : Int → Int → Int) (rt sh : Int → Int) (F G : tf_Sto) : Prop := xfz F G ∧ xnu n rt F G ∧ xtab (G 15 0) G ∧ (F 15 1 ≤ G 15 0 ∧ G 15 0 ≤ F 15 1 + F 24 7) ∧ (∀ x, F 15 1 ≤ x → x < G 15 0 → 0 ≤ G 16 x) ∧ xnr (F 15 1) (F 24 7) (fun j => G 26 (F 27 j)) ∧
  (∀ B, mf_ck n (mh hd rt sh) rt (mc ch rt sh) B → ∀ s t, mf_dom n s → mf_dom n t → B s t → G 26 (rt s) = G 26 (rt t)) ∧
  ∀ i j, mf_dom (F 24 7) i → mf_dom (F 24 7) j → mh hd rt sh (F 27 i) = mh hd rt sh (F 27 j) → (∀ k, 0 ≤ k → k < 3 → xt hd ch rt sh (G 26) (F 27 i) k = xt hd ch rt sh (G 26) (F 27 j) k) → G 26 (F 27 i) = G 26 (F 27 j)
def xfinal (hd : Int → Int) (ch : Int → Int → Int) (rt sh : Int → Int) (F G : tf_Sto) : Prop := (∀ x, F 15 1 ≤ x → x < G 15 0 → ∃ j, mf_dom (F 24 7) j ∧ G 26 (F 27 j) = x) ∧ ∀ j, mf_dom (F 24 7) j → G 26 (F 27 j) < G 15 0 ∧ G 16 (G 26 (F 27 j)) = mh hd rt sh (F 27 j) ∧ ∀ k, 0 ≤ k → k < 3 → G 20 (G 26 (F 27 j) * 3 + k) = xt hd ch rt sh (G 26) (F 27 j) k
set_option maxHeartbeats 1000000 in
theorem xFV_of {F G : tf_Sto} (hF : xFF n hd ch rt sh F) (hK : xK n hd ch rt sh F G) (hfin : xfinal hd ch rt sh F G) : xFV n hd ch rt sh G := by
  obtain ⟨hx, hfi, hop, hc, hst⟩ := id hF
  obtain ⟨kz, kn, kt, kc, k16, knr, kmx, kr6⟩ := hK
  obtain ⟨z1, z2, z3, z4, z5, z6, z7, z8, z9, z10⟩ := kz
  have hc0 : 0 ≤ F 15 1 := by rw [hc]; exact hfi.1
  have hon := hop.2.1
  -- children of found roots are found
  have hchd : ∀ r, mf_dom n r → rt r = r → xrs n hd ch rt sh (F 15 1) F r → ∀ k, 0 ≤ k → k < mf_w (mh hd rt sh r) → G 26 (rt (mc ch rt sh r k)) = F 26 (rt (mc ch rt sh r k)) := by
    intro r hr er hs k k0 k1
    obtain ⟨p1, p2, -⟩ := hx.par _ (mc_dom hx.par hx.2.2.1 hr k0 k1).1
    refine kn.1 _ p1 p2 ?_
    rw [← hs.2.2.2 k k0 k1]
    rcases (hfi.2.2.1 _ (by rw [← hc]; exact hs.1)).2.2 with q | q
    · rw [hs.2.1] at q
      unfold mf_w at k1
      rw [if_pos q.1] at k1
      omega
    · have := (q.2.2.1 k k0 (by rw [hs.2.1]; exact k1)).1
      omega
  refine ⟨by rw [z2]; omega, by rw [z5]; exact hfi.2.2.2.2.2.2, fun r hr er => ?_, fun x hxx => ?_, kmx, ?_, fun x x0 x1 => ?_⟩
  · rcases hF.two hr er with ⟨q1, q2⟩ | ⟨q1, j, j1, j2⟩
    · have e26 : G 26 r = F 26 r := kn.1 r hr er (by have := q1.1; omega)
      have hw := mf_w_in (mh hd rt sh r)
      unfold xrs
      rw [e26, z6, z9 _ q1.2]
      refine ⟨⟨q1.1, by have := q1.2; omega⟩, q2.2.1, q2.2.2.1, fun k k0 k1 => ?_⟩
      rw [z10 _ k q1.2 k0 (by omega), hchd r hr er q2 k k0 k1]
      exact q2.2.2.2 k k0 k1
    · obtain ⟨f1, f2, f3⟩ := hfin.2 j j1
      have f0 := (kn.2 j j1).1
      obtain ⟨-, -, b3, -⟩ := hop.2.2.1 j j1
      have hw := mf_w_in (mh hd rt sh (F 27 j))
      rw [← j2]
      refine ⟨⟨by omega, f1⟩, f2, fun z => absurd z b3, fun k k0 k1 => ?_⟩
      rw [f3 k k0 (by omega)]
      unfold xt
      rw [if_pos k1]
  · by_cases e : x < F 15 1
    · obtain ⟨r, r1, r2, r3⟩ := hfi.2.2.2.2.2.1 x ⟨hxx.1, by omega⟩
      refine ⟨r, r1, r2, ?_⟩
      rw [kn.1 r r1 r2 (by have := hxx.1; omega)]
      exact r3
    · obtain ⟨j, j1, j2⟩ := hfin.1 x (by omega) hxx.2
      obtain ⟨b1, b2, -, -⟩ := hop.2.2.1 j j1
      exact ⟨F 27 j, b1, b2, j2⟩
  · rw [z2]
    intro x hxx
    have hi := hfi.2.2.1 x (by rw [← hc]; exact hxx)
    rw [z7, z8, z9 x hxx.2]
    refine ⟨hi.1, hi.2.1, ?_⟩
    rcases hi.2.2 with q | ⟨q1, q2, q3, q4, q5, q6⟩
    · exact Or.inl q
    · have hw := mf_w_in (F 16 x)
      refine Or.inr ⟨q1, q2, fun k k0 k1 => ?_, fun k k0 k1 => ?_, ?_, ?_⟩
      · rw [z10 x k hxx.2 k0 (by omega)]; exact q3 k k0 k1
      · rw [z10 x k hxx.2 (by omega) k1]; exact q4 k k0 k1
      · rw [q5]; exact mf_szs_congr (fun k k0 k1 => by rw [z10 x k hxx.2 k0 (by omega)])
      · rw [q6]; exact mf_dps_congr (fun k k0 k1 => by rw [z10 x k hxx.2 k0 (by omega)])
  · rw [z2] at x0 ⊢
    obtain ⟨j, j1, j2⟩ := hfin.1 x x0 x1
    obtain ⟨f1, f2, f3⟩ := hfin.2 j j1
    refine ⟨k16 x x0 x1, ?_⟩
    obtain ⟨k, i, k0, k1, i1, i2⟩ := hF.low j1
    have hw := mf_w_in (mh hd rt sh (F 27 j))
    rw [j2] at f2 f3
    refine ⟨k, k0, by rw [f2]; exact k1, ?_⟩
    rw [f3 k k0 (by omega)]
    unfold xt
    rw [if_pos k1, i2]
    exact (kn.2 i i1).1
set_option maxHeartbeats 4000000 in
theorem sp_57b {F : tf_Sto} (hF : xFF n hd ch rt sh F) : ∀ (d : Nat) (G : tf_Sto) (v1 v2 : Int), 0 ≤ v2 → v2 + d = 302 → xK n hd ch rt sh F G →
    ((v1 ≠ G 15 0 - F 15 1 ∧ v2 ≤ G 15 0 - F 15 1 ∧ (G 15 0 = F 15 1 ∨ mf_Num (F 24 7) (G 15 0 - F 15 1) (fun j => G 26 (F 27 j) - F 15 1))) ∨ (v1 = G 15 0 - F 15 1 ∧ xfinal hd ch rt sh F G)) →
    tf_AW l 57 none (tf_PV fun G' => xfr2 F G' ∧ xFV n hd ch rt sh G') 38 [(0, tf_r 24), (1, tf_i v1), (2, tf_i v2)] [] (none, false) G := by
  obtain ⟨hx, hfi, hop, hc, hst⟩ := id hF
  have hc0 : 0 ≤ F 15 1 := by rw [hc]; exact hfi.1
  have hon := hop.2.1
  have h300 := hx.2.1.2
  have ho0 := hop.1
  intro d
  induction d with
  | zero =>
    intro G v1 v2 a0 a1 hK hs
    have kc := hK.2.2.2.1
    rcases hs with hs | hs
    · omega
    · exact vc_57_38 ⟨fun _ => tf_pv ⟨hK.1.1, xFV_of hF hK hs.2⟩, fun z => by omega⟩
  | succ d ih =>
    intro G v1 v2 a0 a1 hK hs
    obtain ⟨kz, kn, kt, kc, k16, knr, kmx, kr6⟩ := id hK
    have z2 := kz.2.1
    have hsp48 := sp_48 (l := l) (G := G) ⟨by omega, by omega⟩ (by rw [z2]; omega)
    rw [z2] at hsp48
    refine vc_57_38 ⟨fun z => by omega, fun _ => tf_re hsp48 ⟨fun q => ?_, fun q => tf_re hsp48 ?_⟩⟩
    · rcases hs with hs | hs
      · exact absurd q.symm hs.1
      · exact tf_pv ⟨hK.1.1, xFV_of hF hK hs.2⟩
    · obtain ⟨s1, s2, s3⟩ : v1 ≠ G 15 0 - F 15 1 ∧ v2 ≤ G 15 0 - F 15 1 ∧ (G 15 0 = F 15 1 ∨ mf_Num (F 24 7) (G 15 0 - F 15 1) (fun j => G 26 (F 27 j) - F 15 1)) := by
        rcases hs with hs | hs
        · exact hs
        · exact absurd hs.1.symm q
      refine tf_rv (sp_58 hF kz kn kt ⟨kc.1, by omega⟩ (fun x x0 x1 => by have := k16 x x0 x1; omega)) ?_
      rintro G2 ⟨f, g1, g2, g3, g4, g5, g6, g7, g8⟩
      -- equal now: equal before
      have mono : ∀ p q, mf_dom n p → rt p = p → mf_dom n q → rt q = q → G2 26 p = G2 26 q → G 26 p = G 26 q := by
        intro p q hp ep hq eq' e
        rcases hF.two hp ep with ⟨p1, p2⟩ | ⟨p1, i, i1, i2⟩
        · have pa := p1.1; have pb := p1.2
          have e1 := g2.1 p hp ep (by omega)
          rcases hF.two hq eq' with ⟨q1, q2⟩ | ⟨q1, j, j1, j2⟩
          · have qa := q1.1
            have e2 := g2.1 q hq eq' (by omega)
            rw [kn.1 p hp ep (by omega), kn.1 q hq eq' (by omega), ← e1, ← e2]
            exact e
          · exfalso
            have := (g2.2 j j1).1
            rw [j2] at this
            omega
        · rcases hF.two hq eq' with ⟨q1, q2⟩ | ⟨q1, j, j1, j2⟩
          · exfalso
            have qa := q1.1; have qb := q1.2
            have e2 := g2.1 q hq eq' (by omega)
            have := (g2.2 i i1).1
            rw [i2] at this
            omega
          · rw [← i2, ← j2] at e ⊢
            rw [(g6 i i1).1, (g6 j j1).1] at e
            obtain ⟨e1, e2⟩ := (g8 i j i1 j1).mp e
            exact kr6 i j i1 j1 e1 e2
      have rtc : ∀ {t k : Int}, mf_dom n t → 0 ≤ k → k < mf_w (mh hd rt sh t) → mf_dom n (rt (mc ch rt sh t k)) ∧ rt (rt (mc ch rt sh t k)) = rt (mc ch rt sh t k) := by
        intro t k ht k0 k1
        obtain ⟨p1, p2, -⟩ := hx.par _ (mc_dom hx.par hx.2.2.1 ht k0 k1).1
        exact ⟨p1, p2⟩
      have hnum2 : mf_Num (F 24 7) (G2 15 0 - F 15 1) (fun j => G2 26 (F 27 j) - F 15 1) := by
        refine ⟨fun j hj => ?_, fun x hxx => ?_⟩
        · obtain ⟨e1, e2, e3, -⟩ := g6 j hj
          show mf_dom _ (G2 26 (F 27 j) - F 15 1)
          rw [e1]
          exact ⟨by omega, by omega⟩
        · obtain ⟨-, j, j1, j2⟩ := g5 (x + F 15 1) (by have := hxx.1; omega) (by have := hxx.2; omega)
          refine ⟨j, j1, ?_⟩
          show G2 26 (F 27 j) - F 15 1 = x
          rw [(g6 j j1).1, j2]; omega
      have hmono2 : ∀ s t, mf_dom (F 24 7) s → mf_dom (F 24 7) t → G2 26 (F 27 s) - F 15 1 = G2 26 (F 27 t) - F 15 1 → G 26 (F 27 s) - F 15 1 = G 26 (F 27 t) - F 15 1 := by
        intro s t hs ht e
        obtain ⟨u1, u2, -, -⟩ := hop.2.2.1 s hs
        obtain ⟨w1, w2, -, -⟩ := hop.2.2.1 t ht
        have := mono _ _ u1 u2 w1 w2 (by omega)
        omega
      have hK2 : xK n hd ch rt sh F G2 := by
        refine ⟨g1, g2, g3, g4, fun x x0 x1 => (g5 x x0 x1).1, ?_, fun B hB s t hs ht hb => ?_, fun i j hi hj e1 e2 => ?_⟩
        · intro j hj w w0 w1
          have w1 : w < G2 26 (F 27 j) := w1
          rw [(g6 j hj).1] at w1
          obtain ⟨i, i0, i1, i2⟩ := g7 j hj w w0 w1
          refine ⟨i, i0, i1, ?_⟩
          show G2 26 (F 27 i) = w
          rw [(g6 i ⟨i0, by have := hj.2; omega⟩).1]
          exact i2
        · obtain ⟨p1, p2, -⟩ := hx.par s hs
          obtain ⟨q1, q2, -⟩ := hx.par t ht
          obtain ⟨b1, b2, b3⟩ := hB s t hs ht hb
          rcases hF.two p1 p2 with ⟨c1, c2⟩ | ⟨c1, i, i1, i2⟩
          · have hm := hF.max hB hs ht hb c1
            have ca := c1.1
            rw [g2.1 _ p1 p2 (by omega), g2.1 _ q1 q2 (by omega), hm]
          · rcases hF.two q1 q2 with ⟨e1, e2⟩ | ⟨e1, j, j1, j2⟩
            · exfalso
              have hm := hF.max (mf_ck_flip hB) ht hs hb e1
              have := e1.1
              omega
            · rw [← i2, ← j2, (g6 i i1).1, (g6 j j1).1]
              refine (g8 i j i1 j1).mpr ?_
              have m1 : mh hd rt sh (F 27 i) = mh hd rt sh s := by rw [i2]; exact mh_rt hx.par hs
              have m2 : mh hd rt sh (F 27 j) = mh hd rt sh t := by rw [j2]; exact mh_rt hx.par ht
              refine ⟨by rw [m1, m2, b1], fun k k0 k1 => ?_⟩
              unfold xt
              rw [m1, m2, ← b1]
              by_cases kw : k < mf_w (mh hd rt sh s)
              · rw [if_pos kw, if_pos kw, i2, j2, mc_rt hx.par hs, mc_rt hx.par ht]
                exact kmx B hB _ _ (mc_dom hx.par hx.2.2.1 hs k0 kw).1 (mc_dom hx.par hx.2.2.1 ht k0 (by rw [← b1]; exact kw)).1 (b3 k k0 kw)
              · rw [if_neg kw, if_neg kw]
        · rw [(g6 i hi).1, (g6 j hj).1]
          refine (g8 i j hi hj).mpr ⟨e1, fun k k0 k1 => ?_⟩
          have e3 := e2 k k0 k1
          unfold xt at e3 ⊢
          rw [e1] at e3 ⊢
          by_cases kw : k < mf_w (mh hd rt sh (F 27 j))
          · rw [if_pos kw, if_pos kw] at e3 ⊢
            obtain ⟨u1, -, -, -⟩ := hop.2.2.1 i hi
            obtain ⟨w1, -, -, -⟩ := hop.2.2.1 j hj
            obtain ⟨y1, y2⟩ := rtc u1 k0 (by rw [e1]; exact kw)
            obtain ⟨y3, y4⟩ := rtc w1 k0 kw
            exact mono _ _ y1 y2 y3 y4 e3
          · rw [if_neg kw, if_neg kw]
      refine ⟨by omega, ih _ _ _ (by omega) (by omega) hK2 ?_⟩
      by_cases he : G2 15 0 = G 15 0
      · right
        refine ⟨by omega, ?_⟩
        -- as many as before: the numbers are the same
        have hsame : ∀ j, mf_dom (F 24 7) j → G 26 (F 27 j) = f j := by
          rcases s3 with s3 | s3
          · intro j hj
            exfalso
            obtain ⟨-, e2, e3, -⟩ := g6 j hj
            omega
          · have hker := mf_num_eq (n := F 24 7) (c := G 15 0 - F 15 1) s3 (by rw [← he]; exact hnum2) (by omega) hmono2
            refine xnr_eq (f := fun j => G 26 (F 27 j)) knr g7 (fun j hj => ⟨(kn.2 j hj).1, (g6 j hj).2.1⟩) (fun i j hi hj => ?_)
            constructor
            · intro e
              have e : G 26 (F 27 i) = G 26 (F 27 j) := e
              have h1 := hker i j hi hj (by show G 26 (F 27 i) - F 15 1 = G 26 (F 27 j) - F 15 1; omega)
              have h1 : G2 26 (F 27 i) - F 15 1 = G2 26 (F 27 j) - F 15 1 := h1
              rw [(g6 i hi).1, (g6 j hj).1] at h1
              omega
            · intro e
              show G 26 (F 27 i) = G 26 (F 27 j)
              have h1 := hmono2 i j hi hj (by rw [(g6 i hi).1, (g6 j hj).1, e])
              omega
        have hall : ∀ p, mf_dom n p → rt p = p → G2 26 p = G 26 p := by
          intro p hp ep
          rcases hF.two hp ep with ⟨c1, -⟩ | ⟨-, j, j1, j2⟩
          · have ca := c1.1
            rw [g2.1 p hp ep (by omega), kn.1 p hp ep (by omega)]
          · rw [← j2, (g6 j j1).1, hsame j j1]
        refine ⟨fun x x0 x1 => ?_, fun j hj => ?_⟩
        · obtain ⟨-, j, j1, j2⟩ := g5 x x0 x1
          exact ⟨j, j1, by rw [(g6 j j1).1]; exact j2⟩
        · obtain ⟨e1, e2, e3, e4, e5⟩ := g6 j hj
          rw [e1]
          refine ⟨e3, e4, fun k k0 k1 => ?_⟩
          rw [e5 k k0 k1]
          unfold xt
          by_cases kw : k < mf_w (mh hd rt sh (F 27 j))
          · rw [if_pos kw, if_pos kw]
            obtain ⟨u1, -, -, -⟩ := hop.2.2.1 j hj
            obtain ⟨y1, y2⟩ := rtc u1 k0 kw
            exact (hall _ y1 y2).symm
          · rw [if_neg kw, if_neg kw]
      · left
        refine ⟨by omega, ?_, Or.inr hnum2⟩
        rcases s3 with s3 | s3
        · omega
        · have := mf_num_le (n := F 24 7) s3 hnum2 (by omega) (by omega) hmono2
          omega
set_option maxHeartbeats 1000000 in
theorem sp_57 {F : tf_Sto} (hF : xFF n hd ch rt sh F) : tf_RUN l 57 [tf_r 24] F (tf_PV fun G' => xfr2 F G' ∧ xFV n hd ch rt sh G') := by
  obtain ⟨hx, hfi, hop, hc, hst⟩ := id hF
  have hc0 : 0 ≤ F 15 1 := by rw [hc]; exact hfi.1
  have hon := hop.2.1
  have h300 := hx.2.1.2
  have ho0 := hop.1
  refine vc_57 ?_
  have key : ∀ (d : Nat) (G1 : tf_Sto) (a : Int), 0 ≤ a → a + d = F 24 7 → (∀ k : Nat, k ≠ 26 → G1 k = F k) → (∀ r, mf_dom n r → rt r = r → F 26 r ≠ -1 → G1 26 r = F 26 r) → (∀ j, 0 ≤ j → j < a → G1 26 (F 27 j) = F 15 0) →
      tf_AW l 57 none (tf_PV fun G' => xfr2 F G' ∧ xFV n hd ch rt sh G') 2 [(0, tf_r 24), (1, tf_i a)] [] (none, false) G1 := by
    intro d
    induction d with
    | zero =>
      intro G1 a a0 a1 hf h1 h2
      have e24 : G1 24 7 = F 24 7 := by rw [hf 24 (by decide)]
      have h2' : ∀ j, mf_dom (F 24 7) j → G1 26 (F 27 j) = F 15 1 := fun j hj => by rw [hc]; exact h2 j hj.1 (by have := hj.2; omega)
      have e15 : G1 15 = F 15 := hf 15 (by decide)
      refine vc_57_2 ⟨fun _ => sp_57b hF 302 G1 (-1) 0 (by omega) (by omega) ⟨?_, ⟨h1, fun j hj => ?_⟩, ?_, ?_, ?_, ?_, ?_, ?_⟩ (Or.inl ⟨?_, ?_, Or.inl ?_⟩), fun z => by omega⟩
      · unfold xfz xfr2
        rw [hf 15 (by decide), hf 24 (by decide), hf 27 (by decide), hf 25 (by decide), hf 17 (by decide), hf 18 (by decide), hf 19 (by decide), hf 16 (by decide), hf 20 (by decide)]
        exact ⟨⟨fun k hk => hf k (by omega), rfl⟩, rfl, rfl, rfl, rfl, rfl, rfl, rfl, fun _ _ => rfl, fun _ _ _ _ _ => rfl⟩
      · rw [h2' j hj]
        have := hj.1; have := hj.2
        omega
      · unfold xtab xmx
        rw [e15, hf 16 (by decide), hf 20 (by decide), hf 21 (by decide), hf 22 (by decide), hf 23 (by decide)]
        exact hfi.2.1
      · rw [e15]; omega
      · rw [e15]; intro x x0 x1; omega
      · intro j hj w w0 w1
        have w1 : w < G1 26 (F 27 j) := w1
        rw [h2' j hj] at w1
        omega
      · intro B hB s t hs ht hb
        obtain ⟨p1, p2, -⟩ := hx.par s hs
        obtain ⟨q1, q2, -⟩ := hx.par t ht
        rcases hF.two p1 p2 with ⟨c1, -⟩ | ⟨c1, i, i1, i2⟩
        · have hm := hF.max hB hs ht hb c1
          have ca := c1.1
          rw [h1 _ p1 p2 (by omega), h1 _ q1 q2 (by omega), hm]
        · rcases hF.two q1 q2 with ⟨e1, -⟩ | ⟨e1, j, j1, j2⟩
          · exfalso
            have hm := hF.max (mf_ck_flip hB) ht hs hb e1
            have := e1.1
            omega
          · rw [← i2, ← j2, h2' i i1, h2' j j1]
      · intro i j hi hj _ _
        rw [h2' i hi, h2' j hj]
      · rw [e15]; omega
      · rw [e15]; omega
      · rw [e15]; exact hc.symm
    | succ d ih =>
      intro G1 a a0 a1 hf h1 h2
      have e24 : G1 24 7 = F 24 7 := by rw [hf 24 (by decide)]
      have e27 : G1 27 = F 27 := hf 27 (by decide)
      have da : mf_dom (F 24 7) a := ⟨a0, by omega⟩
      obtain ⟨b1, b2, b3, b4⟩ := hop.2.2.1 a da
      refine vc_57_2 ⟨fun z => by omega, fun _ => ⟨by omega, by rw [e27]; exact hx.b b1, by omega, ih _ _ (by omega) (by omega) (fun k hk => by rw [tf_upo hk]; exact hf k hk) ?_ ?_⟩⟩
      · intro r r1 r2 r3
        rw [e27, tf_up_eq, if_neg]
        · exact h1 r r1 r2 r3
        · intro e
          rw [e] at r3
          exact r3 b4
      · intro j j0 j1
        rw [e27, tf_up_eq, hf 15 (by decide)]
        by_cases e : j = a
        · rw [if_pos (by rw [e])]
        · rw [if_neg]
          · exact h2 j j0 (by omega)
          · intro z
            exact e (hop.2.2.2.1 j a ⟨j0, by have := da.2; omega⟩ da z)
  exact key (F 24 7).toNat F 0 (by omega) (by omega) (fun _ _ => rfl) (fun _ _ _ _ => rfl) (fun j j0 j1 => by omega)
end
