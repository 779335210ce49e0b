-- SPEC W: the reference: does one come of the other
def tvalid (c : Int) (h : Int → Int) (b : Int → Int → Int) (x y : Int) (C : Int → Int → Prop) : Prop := C x y ∧ (∀ a d, C a d → mf_dom c a ∧ mf_dom c d) ∧ (∀ a d, C a d → h a ≠ -1 → h a = h d ∧ ∀ k, 0 ≤ k → k < mf_w (h a) → C (b a k) (b d k)) ∧ ∀ a d e, C a d → C a e → h a = -1 → d = e
def tmatch (c : Int) (h : Int → Int) (b : Int → Int → Int) (x y : Int) : Prop := ∃ C, tvalid c h b x y C
section
variable {l : Launch} {G : tf_Sto} {n c : Int} {hd : Int → Int} {ch : Int → Int → Int}
def mJ (c : Int) (h : Int → Int) (b : Int → Int → Int) (x y : Int) (G G1 : tf_Sto) : Prop := (∀ k : Nat, k ≠ 42 → k ≠ 60 → k ≠ 61 → k ≠ 62 → G1 k = G k) ∧ (∀ j, j ≠ 26 → G1 42 j = G 42 j) ∧ (0 ≤ G1 42 26 ∧ G1 42 26 ≤ mN G1) ∧
  (∀ q, 0 ≤ q → q < 90000 → mMet G1 q → mf_dom c (q / 300) ∧ mf_dom c (q % 300) ∧ ∀ C, tvalid c h b x y C → C (q / 300) (q % 300)) ∧ (∀ j, 0 ≤ j → j < G1 42 26 → (0 ≤ G1 62 j ∧ G1 62 j < 90000) ∧ mMet G1 (G1 62 j)) ∧
  (∀ a, mf_dom c a → h a = -1 → G1 60 a < 0 ∨ (mf_dom c (G1 60 a) ∧ mMet G1 (300 * a + G1 60 a))) ∧ mMet G1 (300 * x + y)
def mDn (h : Int → Int) (b : Int → Int → Int) (G1 : tf_Sto) (q : Int) : Prop := (h (q / 300) = -1 ∧ G1 60 (q / 300) = q % 300) ∨ (h (q / 300) ≠ -1 ∧ h (q / 300) = h (q % 300) ∧ ∀ k, 0 ≤ k → k < mf_w (h (q / 300)) → mMet G1 (300 * b (q / 300) k + b (q % 300) k))
set_option maxHeartbeats 4000000 in
theorem sp_116 (hm : mtc n hd ch c G) {x y : Int} (hx : mf_dom c x) (hy : mf_dom c y) : tf_RUN l 116 [tf_r 42, tf_i x, tf_i y] G (tf_PI fun r G' => (∀ k : Nat, k ≠ 42 → k ≠ 60 → k ≠ 61 → k ≠ 62 → G' k = G k) ∧ (∀ j, j ≠ 26 → G' 42 j = G 42 j) ∧ ((r = 1 ∧ tmatch c (mH hd G) (mB ch G) x y) ∨ (r = 0 ∧ ¬ tmatch c (mH hd G) (mB ch G) x y))) := by
  have hc := hm.2.2.1
  have bx := hm.b hx
  have by' := hm.b hy
  refine vc_116 (tf_rv (sp_114 hm.2.1 hc bx by') ?_)
  rintro G0 ⟨i1, i2, i3, i4, i5, i6⟩
  generalize hH : mH hd G = h at *
  generalize hB : mB ch G = b at *
  have hBd : ∀ {a k : Int}, mf_dom c a → 0 ≤ k → k < mf_w (h a) → mf_dom c (b a k) := fun ha k0 k1 => by
    rw [← hB]; exact hm.B ha k0 (by rw [hH]; exact k1)
  have hkp : ∀ {G1 : tf_Sto}, mJ c h b x y G G1 → mkp G G1 := fun hj => ⟨fun k p q => hj.1 k (by omega) (by omega) (by omega) (by omega), fun j p _ => hj.2.1 j p⟩
  generalize hPo : (tf_PI fun r G' => (∀ k : Nat, k ≠ 42 → k ≠ 60 → k ≠ 61 → k ≠ 62 → G' k = G k) ∧ (∀ j, j ≠ 26 → G' 42 j = G 42 j) ∧ ((r = 1 ∧ tmatch c h b x y) ∨ (r = 0 ∧ ¬ tmatch c h b x y))) = Po
  have f0 : ∀ (G1 : tf_Sto), mJ c h b x y G G1 → ¬ tmatch c h b x y → ((0 : Int) = 0 ∨ (0 : Int) = 1) ∧ Po (.inl (some (tf_i 0))) G1 := by
    intro G1 hj hn
    rw [← hPo]
    exact ⟨Or.inl rfl, tf_pi ⟨hj.1, hj.2.1, Or.inr ⟨rfl, hn⟩⟩⟩
  have outer : ∀ (d : Nat) (G1 : tf_Sto) (good : Int), mJ c h b x y G G1 → G1 42 26 + 2 * (90000 - mN G1) ≤ d →
      ((good = 1 ∧ ∀ q, 0 ≤ q → q < 90000 → mMet G1 q → (∃ j, 0 ≤ j ∧ j < G1 42 26 ∧ G1 62 j = q) ∨ mDn h b G1 q) ∨ (good = 0 ∧ ¬ tmatch c h b x y)) → tf_AW l 116 none Po 8 [(0, tf_r 42), (3, tf_i good)] [] (none, false) G1 := by
    intro d
    have hfin : ∀ (G1 : tf_Sto), mJ c h b x y G G1 → G1 42 26 ≤ 0 → (∀ q, 0 ≤ q → q < 90000 → mMet G1 q → (∃ j, 0 ≤ j ∧ j < G1 42 26 ∧ G1 62 j = q) ∨ mDn h b G1 q) → ((1 : Int) = 0 ∨ (1 : Int) = 1) ∧ Po (.inl (some (tf_i 1))) G1 := by
      intro G1 hj hz hs
      rw [← hPo]
      refine ⟨Or.inr rfl, tf_pi ⟨hj.1, hj.2.1, Or.inl ⟨rfl, fun a e => mf_dom c a ∧ mf_dom c e ∧ mMet G1 (300 * a + e), ⟨hx, hy, hj.2.2.2.2.2.2⟩, fun a e q => ⟨q.1, q.2.1⟩, fun a e q hl => ?_, fun a e e' q q' hl => ?_⟩⟩⟩
      · obtain ⟨q1, q2, q3⟩ := q
        have b1 := hm.b q1; have b2 := hm.b q2
        rcases hs (300 * a + e) (by omega) (by omega) q3 with ⟨j, j0, j1, -⟩ | hdn
        · omega
        · have d1 : (300 * a + e) / 300 = a := by omega
          have d2 : (300 * a + e) % 300 = e := by omega
          unfold mDn at hdn
          rw [d1, d2] at hdn
          rcases hdn with z | ⟨z1, z2, z3⟩
          · exact absurd z.1 hl
          · exact ⟨z2, fun k k0 k1 => ⟨hBd q1 k0 k1, hBd q2 k0 (by rw [← z2]; exact k1), z3 k k0 k1⟩⟩
      · have key : ∀ e, mf_dom c a → mf_dom c e → mMet G1 (300 * a + e) → G1 60 a = e := by
          intro e q1 q2 q3
          have b1 := hm.b q1; have b2 := hm.b q2
          rcases hs (300 * a + e) (by omega) (by omega) q3 with ⟨j, j0, j1, -⟩ | hdn
          · omega
          · have d1 : (300 * a + e) / 300 = a := by omega
            have d2 : (300 * a + e) % 300 = e := by omega
            unfold mDn at hdn
            rw [d1, d2] at hdn
            rcases hdn with z | z
            · exact z.2
            · exact absurd hl z.1
        rw [← key e q.1 q.2.1 q.2.2, ← key e' q'.1 q'.2.1 q'.2.2]
    induction d with
    | zero =>
      intro G1 good hj hmu hg
      have h1 := hj.2.2.1
      have h3 := (mN_in (G := G1)).2
      rcases hg with ⟨rfl, hg⟩ | ⟨rfl, hg⟩
      · exact vc_116_8 ⟨fun z => hfin G1 hj z hg, fun z => by omega⟩
      · exact vc_116_8 ⟨fun _ => f0 G1 hj hg, fun _ => ⟨fun _ => f0 G1 hj hg, fun z => absurd rfl z⟩⟩
    | succ d ih =>
      intro G1 good hj hmu hg
      rcases hg with ⟨rfl, hg⟩ | ⟨rfl, hg⟩
      · obtain ⟨j1, j2, j3, j4, j5, j6, j7⟩ := id hj
        have hN := (mN_in (G := G1)).2
        refine vc_116_8 ⟨fun z => hfin G1 hj z hg, fun z => ⟨fun z' => by omega, fun _ => ?_⟩⟩
        obtain ⟨e1, e2⟩ := j5 (G1 42 26 - 1) (by omega) (by omega)
        generalize hE : G1 62 (G1 42 26 - 1) = E at *
        obtain ⟨da, dd, hC⟩ := j4 E e1.1 e1.2 e2
        have ba := hm.b da
        have bd := hm.b dd
        have eE : 300 * (E / 300) + E % 300 = E := by omega
        refine ⟨by omega, by omega, by omega, by omega, by omega, ?_⟩
        -- the store with one less on the pile
        have u26 : tf_up G1 42 26 (G1 42 26 - 1) 42 26 = G1 42 26 - 1 := tf_up_at
        have uo : ∀ k : Nat, k ≠ 42 → tf_up G1 42 26 (G1 42 26 - 1) k = G1 k := fun k hk => tf_upo hk
        have uM : ∀ q, mMet (tf_up G1 42 26 (G1 42 26 - 1)) q ↔ mMet G1 q := fun q => by unfold mMet; rw [uo 61 (by decide)]
        have uN : mN (tf_up G1 42 26 (G1 42 26 - 1)) = mN G1 := mN_congr (fun t _ _ => uM t)
        have uJ : mJ c h b x y G (tf_up G1 42 26 (G1 42 26 - 1)) := by
          refine ⟨fun k p q r s => by rw [uo k p]; exact j1 k p q r s, fun j p => by rw [tf_up_eq, if_neg p]; exact j2 j p, by rw [u26, uN]; omega, fun q q0 q1 q2 => j4 q q0 q1 ((uM q).mp q2), fun j p q => ?_, fun a p q => ?_, (uM _).mpr j7⟩
          · rw [u26] at q
            rw [uo 62 (by decide)]
            obtain ⟨r1, r2⟩ := j5 j p (by omega)
            exact ⟨r1, (uM _).mpr r2⟩
          · rw [uo 60 (by decide)]
            rcases j6 a p q with r | r
            · exact Or.inl r
            · exact Or.inr ⟨r.1, (uM _).mpr r.2⟩
        have uS : ∀ q, 0 ≤ q → q < 90000 → mMet (tf_up G1 42 26 (G1 42 26 - 1)) q → (∃ j, 0 ≤ j ∧ j < G1 42 26 - 1 ∧ G1 62 j = q) ∨ mDn h b (tf_up G1 42 26 (G1 42 26 - 1)) q ∨ q = E := by
          intro q q0 q1 q2
          rcases hg q q0 q1 ((uM q).mp q2) with ⟨j, p0, p1, p2⟩ | r
          · by_cases ej : j = G1 42 26 - 1
            · rw [ej, hE] at p2; exact Or.inr (Or.inr p2.symm)
            · exact Or.inl ⟨j, p0, by omega, p2⟩
          · right; left
            unfold mDn at r ⊢
            rw [uo 60 (by decide)]
            rcases r with r | ⟨r1, r2, r3⟩
            · exact Or.inl r
            · exact Or.inr ⟨r1, r2, fun k k0 k1 => (uM _).mpr (r3 k k0 k1)⟩
        have u62 : tf_up G1 42 26 (G1 42 26 - 1) 62 = G1 62 := uo 62 (by decide)
        have hsp := sp_100 (l := l) (hm.kp (hkp uJ)) da
        rw [(hkp uJ).H, hH] at hsp
        have hsp1 := sp_101 (l := l) (hm.kp (hkp uJ)) da dd
        rw [(hkp uJ).H, hH] at hsp1
        refine tf_re hsp ?_
        clear hsp
        have e60 : tf_up G1 42 26 (G1 42 26 - 1) 60 = G1 60 := uo 60 (by decide)
        generalize hG2 : tf_up G1 42 26 (G1 42 26 - 1) = G2 at *
        clear hG2
        by_cases hl : h (E / 300) = -1
        · -- a leaf
          rw [if_pos hl]
          refine ⟨fun z => by omega, fun _ => ?_⟩
          have w60 : ∀ q, tf_up G2 60 (E / 300) (E % 300) 60 q = if q = E / 300 then E % 300 else G2 60 q := fun q => tf_up_eq
          have wo : ∀ k : Nat, k ≠ 60 → tf_up G2 60 (E / 300) (E % 300) k = G2 k := fun k hk => tf_upo hk
          have wM : ∀ q, mMet (tf_up G2 60 (E / 300) (E % 300)) q ↔ mMet G2 q := fun q => by unfold mMet; rw [wo 61 (by decide)]
          have wN : mN (tf_up G2 60 (E / 300) (E % 300)) = mN G2 := mN_congr (fun t _ _ => wM t)
          have wJ : mJ c h b x y G (tf_up G2 60 (E / 300) (E % 300)) := by
            obtain ⟨y1, y2, y3, y4, y5, y6, y7⟩ := uJ
            refine ⟨fun k p q r s => by rw [wo k q]; exact y1 k p q r s, fun j p => by rw [wo 42 (by decide)]; exact y2 j p, by rw [wo 42 (by decide), wN]; exact y3, fun q q0 q1 q2 => y4 q q0 q1 ((wM q).mp q2), fun j p q => ?_, fun a p q => ?_, (wM _).mpr y7⟩
            · rw [wo 42 (by decide)] at q
              rw [wo 62 (by decide)]
              obtain ⟨r1, r2⟩ := y5 j p q
              exact ⟨r1, (wM _).mpr r2⟩
            · rw [w60]
              by_cases ea : a = E / 300
              · rw [if_pos ea, ea, eE]
                exact Or.inr ⟨dd, (wM _).mpr ((uM E).mpr e2)⟩
              · rw [if_neg ea]
                rcases y6 a p q with r | r
                · exact Or.inl r
                · exact Or.inr ⟨r.1, (wM _).mpr r.2⟩
          have go1 : (G2 60 (E / 300) < 0 ∨ G2 60 (E / 300) = E % 300) → tf_AW l 116 none Po 8 [(0, tf_r 42), (3, tf_i 1)] [] (none, false) (tf_up G2 60 (E / 300) (E % 300)) := by
            intro hput
            refine ih _ 1 wJ ?_ (Or.inl ⟨rfl, fun q q0 q1 q2 => ?_⟩)
            · rw [wo 42 (by decide), wN, u26, uN]; omega
            · rw [wo 42 (by decide), wo 62 (by decide), u26, u62]
              rcases uS q q0 q1 ((wM q).mp q2) with r | r | r
              · exact Or.inl r
              · right
                unfold mDn at r ⊢
                rw [w60]
                rcases r with ⟨r1, r2⟩ | ⟨r1, r2, r3⟩
                · left
                  refine ⟨r1, ?_⟩
                  by_cases ea : q / 300 = E / 300
                  · rw [if_pos ea]
                    rw [ea] at r2
                    rcases hput with p | p
                    · omega
                    · omega
                  · rw [if_neg ea]; exact r2
                · exact Or.inr ⟨r1, r2, fun k k0 k1 => (wM _).mpr (r3 k k0 k1)⟩
              · right
                left
                rw [r, w60, if_pos rfl]
                exact ⟨hl, rfl⟩
          refine ⟨ba, fun p => ⟨ba, go1 (Or.inl p)⟩, fun p => ⟨ba, fun p2 => ⟨ba, ih _ 0 wJ ?_ (Or.inr ⟨rfl, ?_⟩)⟩, fun p2 => ⟨ba, go1 (Or.inr p2)⟩⟩⟩
          · rw [wo 42 (by decide), wN, u26, uN]; omega
          · rintro ⟨C, hCv⟩
            rcases uJ.2.2.2.2.2.1 _ da hl with r | ⟨r1, r2⟩
            · omega
            · have br := hm.b r1
              have z1 := (uJ.2.2.2.1 (300 * (E / 300) + G2 60 (E / 300)) (by omega) (by omega) r2).2.2 C hCv
              have d1 : (300 * (E / 300) + G2 60 (E / 300)) / 300 = E / 300 := by omega
              have d2 : (300 * (E / 300) + G2 60 (E / 300)) % 300 = G2 60 (E / 300) := by omega
              rw [d1, d2] at z1
              exact p2 (hCv.2.2.2 _ _ _ z1 (hC C hCv) hl)
        · -- a sign
          rw [if_neg hl]
          refine ⟨fun _ => tf_ri hsp1 ?_, fun z => absurd rfl z⟩
          rintro r G3 ⟨rfl, ⟨rfl, -, p2⟩ | ⟨rfl, p2⟩⟩
          · have hwl := mf_w_in (h (E / 300))
            have inner : ∀ (f : Nat) (G4 : tf_Sto) (k : Int), 0 ≤ k → k + f = mf_w (h (E / 300)) → mJ c h b x y G G4 → G4 42 26 + 2 * (90000 - mN G4) ≤ d → mMet G4 E → (∀ q, 0 ≤ q → q < 90000 → mMet G4 q → (∃ j, 0 ≤ j ∧ j < G4 42 26 ∧ G4 62 j = q) ∨ mDn h b G4 q ∨ q = E) → (∀ j, 0 ≤ j → j < k → mMet G4 (300 * b (E / 300) j + b (E % 300) j)) →
                tf_AW l 116 none Po 120 [(0, tf_r 42), (3, tf_i 1), (4, tf_i (E / 300)), (5, tf_i (E % 300)), (6, tf_i k)] [] (none, false) G4 := by
              intro f
              induction f with
              | zero =>
                intro G4 k k0 k1 y0 y1 y2 y3 y4
                have hsp := sp_99 (l := l) (hm.kp (hkp y0)) da
                rw [(hkp y0).H, hH] at hsp
                refine vc_116_120 (tf_re hsp ⟨fun _ => ih G4 1 y0 y1 (Or.inl ⟨rfl, fun q q0 q1 q2 => ?_⟩), fun z => by omega⟩)
                rcases y3 q q0 q1 q2 with r | r | r
                · exact Or.inl r
                · exact Or.inr r
                · right; right
                  rw [r]
                  exact ⟨hl, p2, fun j j0 j1 => y4 j j0 (by omega)⟩
              | succ f ihf =>
                intro G4 k k0 k1 y0 y1 y2 y3 y4
                have hmk := hm.kp (hkp y0)
                have hsp := sp_99 (l := l) hmk da
                rw [(hkp y0).H, hH] at hsp
                have hspa := sp_98 (l := l) hmk da k0 (by rw [(hkp y0).H, hH]; omega)
                have hspd := sp_98 (l := l) hmk dd k0 (by rw [(hkp y0).H, hH, ← p2]; omega)
                rw [(hkp y0).B, hB] at hspa hspd
                have dc1 := hBd da k0 (by omega)
                have dc2 := hBd dd k0 (by rw [← p2]; omega)
                have bc1 := hm.b dc1
                have bc2 := hm.b dc2
                obtain ⟨v1, v2, v3, v4, v5, v6, v7⟩ := id y0
                refine vc_116_120 (tf_re hsp ⟨fun z => by omega, fun _ => ⟨fun z => by omega, fun _ => tf_re hspa (tf_re hspd (tf_rv (sp_115 bc1 bc2 (fun hnm => ?_)) ?_))⟩⟩)
                · have := mN_new (G := G4) (p := 300 * b (E / 300) k + b (E % 300) k) (by omega) (by omega) hnm
                  omega
                · intro G5 hcm
                  have hnum := hcm.num (by omega) (by omega)
                  obtain ⟨c1, c2, c3, c4⟩ := id hcm
                  have e60' : G5 60 = G4 60 := c1 60 (by decide) (by decide) (by decide)
                  have d1 : (300 * b (E / 300) k + b (E % 300) k) / 300 = b (E / 300) k := by omega
                  have d2 : (300 * b (E / 300) k + b (E % 300) k) % 300 = b (E % 300) k := by omega
                  have y0' : mJ c h b x y G G5 := by
                    refine ⟨fun k p q r s => by rw [c1 k p r s]; exact v1 k p q r s, fun j p => (c2 j p).trans (v2 j p), by omega, fun q q0 q1 q2 => ?_, fun j p q => ?_, fun a p q => ?_, (c3 _ (by omega)).mpr (Or.inl v7)⟩
                    · rcases (c3 q q0).mp q2 with r | r
                      · exact v4 q q0 q1 r
                      · rw [r, d1, d2]
                        exact ⟨dc1, dc2, fun C hCv => (hCv.2.2.1 _ _ (hC C hCv) hl).2 k k0 (by omega)⟩
                    · rcases c4 with ⟨-, r1, r2⟩ | ⟨-, r1, r2, r3⟩
                      · rw [r1] at q
                        rw [r2]
                        obtain ⟨w1, w2⟩ := v5 j p q
                        exact ⟨w1, (c3 _ w1.1).mpr (Or.inl w2)⟩
                      · by_cases ej : j = G4 42 26
                        · rw [ej, r2]
                          exact ⟨⟨by omega, by omega⟩, (c3 _ (by omega)).mpr (Or.inr rfl)⟩
                        · rw [r3 j ej]
                          obtain ⟨w1, w2⟩ := v5 j p (by omega)
                          exact ⟨w1, (c3 _ w1.1).mpr (Or.inl w2)⟩
                    · rw [e60']
                      rcases v6 a p q with r | r
                      · exact Or.inl r
                      · have := p.1; have := r.1.1
                        exact Or.inr ⟨r.1, (c3 _ (by omega)).mpr (Or.inl r.2)⟩
                  refine ⟨by omega, ihf G5 _ (by omega) (by omega) y0' (by omega) ((c3 _ e1.1).mpr (Or.inl y2)) (fun q q0 q1 q2 => ?_) (fun j w0 w1 => ?_)⟩
                  · rcases (c3 q q0).mp q2 with r | r
                    · rcases y3 q q0 q1 r with ⟨j, p0, p1, p2'⟩ | r | r
                      · left
                        rcases c4 with ⟨-, r1, r2⟩ | ⟨-, r1, r2, r3⟩
                        · exact ⟨j, p0, by omega, by rw [r2]; exact p2'⟩
                        · exact ⟨j, p0, by omega, by rw [r3 j (by omega)]; exact p2'⟩
                      · right; left
                        unfold mDn at r ⊢
                        rw [e60']
                        obtain ⟨dq1, dq2, -⟩ := v4 q q0 q1 (by assumption)
                        rcases r with r | ⟨r1, r2, r3⟩
                        · exact Or.inl r
                        · refine Or.inr ⟨r1, r2, fun k k0 k1 => (c3 _ ?_).mpr (Or.inl (r3 k k0 k1))⟩
                          have := (hBd dq1 k0 k1).1
                          have := (hBd dq2 k0 (by rw [← r2]; exact k1)).1
                          omega
                      · exact Or.inr (Or.inr r)
                    · rcases c4 with ⟨r0, r1, r2⟩ | ⟨-, r1, r2, r3⟩
                      · rw [← r] at r0
                        rcases y3 q q0 q1 r0 with ⟨j, p0, p1, p2'⟩ | r' | r'
                        · exact Or.inl ⟨j, p0, by omega, by rw [r2]; exact p2'⟩
                        · right; left
                          unfold mDn at r' ⊢
                          rw [e60']
                          obtain ⟨dq1, dq2, -⟩ := v4 q q0 q1 r0
                          rcases r' with r' | ⟨z1, z2, z3⟩
                          · exact Or.inl r'
                          · refine Or.inr ⟨z1, z2, fun k k0 k1 => (c3 _ ?_).mpr (Or.inl (z3 k k0 k1))⟩
                            have := (hBd dq1 k0 k1).1
                            have := (hBd dq2 k0 (by rw [← z2]; exact k1)).1
                            omega
                        · exact Or.inr (Or.inr r')
                      · exact Or.inl ⟨G4 42 26, by omega, by omega, by rw [r2, r]⟩
                  · by_cases ej : j = k
                    · rw [ej]; exact (c3 _ (by omega)).mpr (Or.inr rfl)
                    · have w2 := (hBd da w0 (by omega)).1
                      have w3 := (hBd dd w0 (by rw [← p2]; omega)).1
                      exact (c3 _ (by omega)).mpr (Or.inl (y4 j w0 (by omega)))
            refine inner (mf_w (h (E / 300))).toNat G3 0 (by omega) (by omega) uJ (by omega) ((uM E).mpr e2) (fun q q0 q1 q2 => ?_) (fun j w0 w1 => by omega)
            rw [u26, u62]
            exact uS q q0 q1 q2
          · have hn : ¬ tmatch c h b x y := by
              rintro ⟨C, hCv⟩
              exact p2 ⟨hl, (hCv.2.2.1 _ _ (hC C hCv) hl).1⟩
            have hsp := sp_99 (l := l) (hm.kp (hkp uJ)) da
            rw [(hkp uJ).H, hH] at hsp
            have nx := ih G3 0 uJ (by omega) (Or.inr ⟨rfl, hn⟩)
            exact vc_116_120 (tf_re hsp ⟨fun _ => nx, fun _ => ⟨fun _ => nx, fun z => absurd rfl z⟩⟩)
      · exact vc_116_8 ⟨fun _ => f0 G1 hj hg, fun _ => ⟨fun _ => f0 G1 hj hg, fun z => absurd rfl z⟩⟩
  have hN0 : mN G0 = 1 := mN_one (p := 300 * x + y) (by omega) (by omega) i3
  have d1 : (300 * x + y) / 300 = x := by omega
  have d2 : (300 * x + y) % 300 = y := by omega
  refine outer 200000 G0 1 ⟨i1, i2, by omega, fun q q0 q1 q2 => ?_, fun j j0 j1 => ?_, fun a ha _ => Or.inl (by rw [i6 a ha.1 ha.2]; decide), (i3 _ (by omega) (by omega)).mpr rfl⟩ (by omega) (Or.inl ⟨rfl, fun q q0 q1 q2 => Or.inl ⟨0, by omega, by omega, ?_⟩⟩)
  · rw [(i3 q q0 q1).mp q2, d1, d2]
    exact ⟨hx, hy, fun C hCv => hCv.1⟩
  · have : j = 0 := by omega
    rw [this, i5]
    exact ⟨⟨by omega, by omega⟩, (i3 _ (by omega) (by omega)).mpr rfl⟩
  · rw [i5, (i3 q q0 q1).mp q2]
end
