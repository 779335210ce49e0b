-- SPEC X: the reference: what two have in common
def tpr (c : Int) (h : Int → Int) (b : Int → Int → Int) (x y a d : Int) : Prop := ∀ P : Int → Int → Prop, P x y → (∀ a d, mf_dom c a → mf_dom c d → P a d → h a ≠ -1 → h a = h d → ∀ k, 0 ≤ k → k < mf_w (h a) → P (b a k) (b d k)) → P a d
def tal (h : Int → Int) (q : Int) : Prop := h (q / 300) ≠ -1 ∧ h (q / 300) = h (q % 300)
noncomputable def tcom (c : Int) (h : Int → Int) (b : Int → Int → Int) (x y what : Int) : Int := if what = 0 then mf_cnt (fun q => tpr c h b x y (q / 300) (q % 300)) mK else mf_cnt (fun q => tpr c h b x y (q / 300) (q % 300) ∧ ¬ tal h q) mK
section
variable {l : Launch} {G : tf_Sto} {n c : Int} {hd : Int → Int} {ch : Int → Int → Int}
def mIn (G1 : tf_Sto) (q : Int) : Prop := ∃ j, 0 ≤ j ∧ j < G1 42 26 ∧ G1 62 j = q
noncomputable def mL (h : Int → Int) (G1 : tf_Sto) : Int := mf_cnt (fun q => mMet G1 q ∧ ¬ tal h q ∧ ¬ mIn G1 q) mK
def mP (c : Int) (h : Int → Int) (b : Int → Int → Int) (x y : Int) (G G1 : tf_Sto) : Prop := (∀ k : Nat, k ≠ 42 → k ≠ 60 → k ≠ 61 → k ≠ 62 → G1 k = G k) ∧ (∀ j, j ≠ 26 → G1 42 j = G 42 j) ∧ 0 ≤ G1 42 26 ∧
  (∀ q, 0 ≤ q → q < 90000 → mMet G1 q → mf_dom c (q / 300) ∧ mf_dom c (q % 300) ∧ tpr c h b x y (q / 300) (q % 300)) ∧ (∀ j, 0 ≤ j → j < G1 42 26 → (0 ≤ G1 62 j ∧ G1 62 j < 90000) ∧ mMet G1 (G1 62 j)) ∧
  (∀ i j, 0 ≤ i → i < G1 42 26 → 0 ≤ j → j < G1 42 26 → G1 62 i = G1 62 j → i = j) ∧ mMet G1 (300 * x + y)
def mD2 (h : Int → Int) (b : Int → Int → Int) (G1 : tf_Sto) (q : Int) : Prop := tal h q → ∀ k, 0 ≤ k → k < mf_w (h (q / 300)) → mMet G1 (300 * b (q / 300) k + b (q % 300) k)
theorem mL_in {h : Int → Int} : 0 ≤ mL h G ∧ mL h G ≤ 90000 := by
  have h := mf_cnt_in (fun q => mMet G q ∧ ¬ tal h q ∧ ¬ mIn G q) mK
  rw [mK_int] at h
  exact h
set_option maxHeartbeats 4000000 in
theorem sp_119b (hm : mtc n hd ch c G) {x y what : Int} (hx : mf_dom c x) (hy : mf_dom c y) {Po : tf_Out → tf_Sto → Prop} (hPo : ∀ G', (∀ k : Nat, k ≠ 42 → k ≠ 60 → k ≠ 61 → k ≠ 62 → G' k = G k) → (∀ j, j ≠ 26 → G' 42 j = G 42 j) → Po (.inl (some (tf_i (tcom c (mH hd G) (mB ch G) x y what)))) G') :
    ∀ (d : Nat) (G1 : tf_Sto) (v4 v5 : Int), mP c (mH hd G) (mB ch G) x y G G1 → v4 + G1 42 26 = mN G1 → 0 ≤ v4 → v5 = mL (mH hd G) G1 → G1 42 26 + 2 * (90000 - mN G1) ≤ d → (∀ q, 0 ≤ q → q < 90000 → mMet G1 q → mIn G1 q ∨ mD2 (mH hd G) (mB ch G) G1 q) →
      tf_AW l 119 none Po 66 [(0, tf_r 42), (3, tf_i what), (4, tf_i v4), (5, tf_i v5)] [] (none, false) G1 := by
  have hc := hm.2.2.1
  have bx := hm.b hx
  have by' := hm.b hy
  generalize hH : mH hd G = h at *
  generalize hB : mB ch G = b at *
  have hBd : ∀ {a k : Int}, mf_dom c a → 0 ≤ k → k < mf_w (h a) → mf_dom c (b a k) := fun ha k0 k1 => by
    rw [← hB]; exact hm.B ha k0 (by rw [hH]; exact k1)
  have hkp : ∀ {G1 : tf_Sto}, mP c h b x y G G1 → mkp G G1 := fun hj => ⟨fun k p q => hj.1 k (by omega) (by omega) (by omega) (by omega), fun j p _ => hj.2.1 j p⟩
  intro d
  have hfin : ∀ (G1 : tf_Sto) (v4 v5 : Int), mP c h b x y G G1 → v4 + G1 42 26 = mN G1 → v5 = mL h G1 → G1 42 26 ≤ 0 → (∀ q, 0 ≤ q → q < 90000 → mMet G1 q → mIn G1 q ∨ mD2 h b G1 q) → (what ≠ 0 → Po (.inl (some (tf_i v5))) G1) ∧ (what = 0 → Po (.inl (some (tf_i v4))) G1) := by
    intro G1 v4 v5 hj hv4 hv5 hz hs
    obtain ⟨j1, j2, j3, j4, j5, j6, j7⟩ := id hj
    have hno : ∀ q, ¬ mIn G1 q := by rintro q ⟨j, p0, p1, -⟩; omega
    have hiff : ∀ q, 0 ≤ q → q < 90000 → (mMet G1 q ↔ tpr c h b x y (q / 300) (q % 300)) := by
      intro q q0 q1
      refine ⟨fun z => (j4 q q0 q1 z).2.2, fun z => ?_⟩
      have hz2 := z (fun a e => mf_dom c a ∧ mf_dom c e ∧ mMet G1 (300 * a + e)) ⟨hx, hy, j7⟩ (fun a e da de p hl he k k0 k1 => ?_)
      · have : 300 * (q / 300) + q % 300 = q := by omega
        rw [this] at hz2
        exact hz2.2.2
      · obtain ⟨-, -, p3⟩ := p
        have b1 := hm.b da; have b2 := hm.b de
        have d1 : (300 * a + e) / 300 = a := by omega
        have d2 : (300 * a + e) % 300 = e := by omega
        rcases hs (300 * a + e) (by omega) (by omega) p3 with r | r
        · exact absurd r (hno _)
        · unfold mD2 tal at r
          rw [d1, d2] at r
          exact ⟨hBd da k0 k1, hBd de k0 (by rw [← he]; exact k1), r ⟨hl, he⟩ k k0 k1⟩
    have e4 : v4 = mf_cnt (fun q => tpr c h b x y (q / 300) (q % 300)) mK := by
      have : mN G1 = mf_cnt (fun q => tpr c h b x y (q / 300) (q % 300)) mK := mf_cnt_congr (fun t t0 t1 => hiff t t0 (by rw [mK_int] at t1; exact t1))
      omega
    have e5 : v5 = mf_cnt (fun q => tpr c h b x y (q / 300) (q % 300) ∧ ¬ tal h q) mK := by
      rw [hv5]
      refine mf_cnt_congr (fun t t0 t1 => ?_)
      rw [hiff t t0 (by rw [mK_int] at t1; exact t1)]
      exact ⟨fun z => ⟨z.1, z.2.1⟩, fun z => ⟨z.1, z.2, hno t⟩⟩
    have hp := hPo G1 j1 j2
    unfold tcom at hp
    refine ⟨fun z => ?_, fun z => ?_⟩
    · rw [if_neg z, ← e5] at hp; exact hp
    · rw [if_pos z, ← e4] at hp; exact hp
  induction d with
  | zero =>
    intro G1 v4 v5 hj hv4 hv40 hv5 hmu hs
    have h1 := hj.2.2.1
    have h3 := (mN_in (G := G1)).2
    exact vc_119_66 ⟨fun z => hfin G1 v4 v5 hj hv4 hv5 z hs, fun z => by omega⟩
  | succ d ih =>
    intro G1 v4 v5 hj hv4 hv40 hv5 hmu hs
    obtain ⟨j1, j2, j3, j4, j5, j6, j7⟩ := id hj
    have hN := (mN_in (G := G1)).2
    have hL := mL_in (G := G1) (h := h)
    refine vc_119_66 ⟨fun z => hfin G1 v4 v5 hj hv4 hv5 z hs, fun z => ?_⟩
    obtain ⟨e1, e2⟩ := j5 (G1 42 26 - 1) (by omega) (by omega)
    generalize hE : G1 62 (G1 42 26 - 1) = E at *
    obtain ⟨da, dd, hC⟩ := j4 E e1.1 e1.2 e2
    have ba := hm.b da
    have bd := hm.b dd
    refine ⟨by omega, by omega, by omega, by omega, by omega, ?_⟩
    have u26 : tf_up G1 42 26 (G1 42 26 - 1) 42 26 = G1 42 26 - 1 := tf_up_at
    have uo : ∀ k : Nat, k ≠ 42 → tf_up G1 42 26 (G1 42 26 - 1) k = G1 k := fun k hk => tf_upo hk
    have uM : ∀ q, mMet (tf_up G1 42 26 (G1 42 26 - 1)) q ↔ mMet G1 q := fun q => by unfold mMet; rw [uo 61 (by decide)]
    have uN : mN (tf_up G1 42 26 (G1 42 26 - 1)) = mN G1 := mN_congr (fun t _ _ => uM t)
    have u62 : tf_up G1 42 26 (G1 42 26 - 1) 62 = G1 62 := uo 62 (by decide)
    have uI : ∀ q, mIn (tf_up G1 42 26 (G1 42 26 - 1)) q ↔ (mIn G1 q ∧ q ≠ E) := by
      intro q
      unfold mIn
      rw [u26, u62]
      constructor
      · rintro ⟨j, p0, p1, p2⟩
        refine ⟨⟨j, p0, by omega, p2⟩, fun e => ?_⟩
        have := j6 j (G1 42 26 - 1) p0 (by omega) (by omega) (by omega) (by rw [p2, hE, e])
        omega
      · rintro ⟨⟨j, p0, p1, p2⟩, pe⟩
        have : j ≠ G1 42 26 - 1 := fun e => by rw [e, hE] at p2; exact pe p2.symm
        exact ⟨j, p0, by omega, p2⟩
    have hEin : mIn G1 E := ⟨G1 42 26 - 1, by omega, by omega, hE⟩
    have uP : mP c h b x y G (tf_up G1 42 26 (G1 42 26 - 1)) := by
      refine ⟨fun k p q r s => by rw [uo k p]; exact j1 k p q r s, fun j p => by rw [tf_up_eq, if_neg p]; exact j2 j p, by rw [u26]; omega, fun q q0 q1 q2 => j4 q q0 q1 ((uM q).mp q2), fun j p q => ?_, fun i j i0 i1 p q => ?_, (uM _).mpr j7⟩
      · rw [u26] at q
        rw [u62]
        obtain ⟨r1, r2⟩ := j5 j p (by omega)
        exact ⟨r1, (uM _).mpr r2⟩
      · rw [u26] at i1 q
        rw [u62]
        exact j6 i j i0 (by omega) p (by omega)
    have uL0 : tal h E → mL h (tf_up G1 42 26 (G1 42 26 - 1)) = mL h G1 := by
      intro ht
      refine mf_cnt_congr (fun t _ _ => ?_)
      rw [uM, uI]
      constructor
      · rintro ⟨p1, p2, p3⟩
        refine ⟨p1, p2, fun r => p3 ⟨r, fun e => ?_⟩⟩
        rw [e] at p2; exact p2 ht
      · rintro ⟨p1, p2, p3⟩
        exact ⟨p1, p2, fun r => p3 r.1⟩
    have uL1 : ¬ tal h E → mL h (tf_up G1 42 26 (G1 42 26 - 1)) = mL h G1 + 1 := by
      intro ht
      refine mf_cnt_add (P := fun q => mMet G1 q ∧ ¬ tal h q ∧ ¬ mIn G1 q) (a := E) e1.1 (by rw [mK_int]; exact e1.2) (fun r => r.2.2 hEin) (fun t _ _ => ?_)
      rw [uM, uI]
      constructor
      · rintro ⟨p1, p2, p3⟩
        by_cases e : t = E
        · exact Or.inr e
        · exact Or.inl ⟨p1, p2, fun r => p3 ⟨r, e⟩⟩
      · rintro (⟨p1, p2, p3⟩ | e)
        · exact ⟨p1, p2, fun r => p3 r.1⟩
        · rw [e]; exact ⟨e2, ht, fun r => r.2 rfl⟩
    have uS : ∀ q, 0 ≤ q → q < 90000 → mMet (tf_up G1 42 26 (G1 42 26 - 1)) q → mIn (tf_up G1 42 26 (G1 42 26 - 1)) q ∨ mD2 h b (tf_up G1 42 26 (G1 42 26 - 1)) q ∨ q = E := by
      intro q q0 q1 q2
      rcases hs q q0 q1 ((uM q).mp q2) with r | r
      · by_cases e : q = E
        · exact Or.inr (Or.inr e)
        · exact Or.inl ((uI q).mpr ⟨r, e⟩)
      · right; left
        intro ht k k0 k1
        exact (uM _).mpr (r ht k k0 k1)
    have hsp1 := sp_101 (l := l) (hm.kp (hkp uP)) da dd
    rw [(hkp uP).H, hH] at hsp1
    refine tf_ri hsp1 ?_
    clear hsp1
    generalize hG2 : tf_up G1 42 26 (G1 42 26 - 1) = G2 at *
    clear hG2
    rintro r G3 ⟨rfl, ⟨rfl, p1, p2⟩ | ⟨rfl, p2⟩⟩
    · -- a node
      have ht : tal h E := ⟨p1, p2⟩
      have hwl := mf_w_in (h (E / 300))
      refine ⟨by omega, fun z => by omega, fun _ => ⟨by omega, ?_⟩⟩
      have inner : ∀ (f : Nat) (G4 : tf_Sto) (k : Int), 0 ≤ k → k + f = mf_w (h (E / 300)) → mP c h b x y G G4 → (v4 + 1) + G4 42 26 = mN G4 → v5 + 0 = mL h G4 → G4 42 26 + 2 * (90000 - mN G4) ≤ d → mMet G4 E → (∀ q, 0 ≤ q → q < 90000 → mMet G4 q → mIn G4 q ∨ mD2 h b G4 q ∨ q = E) → (∀ j, 0 ≤ j → j < k → mMet G4 (300 * b (E / 300) j + b (E % 300) j)) →
          tf_AW l 119 none Po 144 [(0, tf_r 42), (3, tf_i what), (4, tf_i (v4 + 1)), (5, tf_i (v5 + 0)), (6, tf_i (E / 300)), (7, tf_i (E % 300)), (8, tf_i 1), (9, tf_i k)] [] (none, false) G4 := by
        intro f
        induction f with
        | zero =>
          intro G4 k k0 k1 y0 y1 y2 y3 y4 y5 y6
          have hsp := sp_99 (l := l) (hm.kp (hkp y0)) da
          rw [(hkp y0).H, hH] at hsp
          refine vc_119_144 ⟨fun z => by omega, fun _ => tf_re hsp ⟨fun _ => ih G4 _ _ y0 y1 (by omega) y2 y3 (fun q q0 q1 q2 => ?_), fun z => by omega⟩⟩
          rcases y5 q q0 q1 q2 with r | r | r
          · exact Or.inl r
          · exact Or.inr r
          · right
            rw [r]
            exact fun _ j j0 j1 => y6 j j0 (by omega)
        | succ f ihf =>
          intro G4 k k0 k1 y0 y1 y2 y3 y4 y5 y6
          have hmk := hm.kp (hkp y0)
          have hsp := sp_99 (l := l) hmk da
          rw [(hkp y0).H, hH] at hsp
          have hspa := sp_98 (l := l) hmk da k0 (by rw [(hkp y0).H, hH]; omega)
          have hspd := sp_98 (l := l) hmk dd k0 (by rw [(hkp y0).H, hH, ← p2]; omega)
          rw [(hkp y0).B, hB] at hspa hspd
          have dc1 := hBd da k0 (by omega)
          have dc2 := hBd dd k0 (by rw [← p2]; omega)
          have bc1 := hm.b dc1
          have bc2 := hm.b dc2
          obtain ⟨v1, v2, v3, v4', v5', v6, v7⟩ := id y0
          have hN4 := mN_in (G := G4)
          refine vc_119_144 ⟨fun z => by omega, fun _ => tf_re hsp ⟨fun z => by omega, fun _ => tf_re hspa (tf_re hspd (tf_rv (sp_115 bc1 bc2 (fun hnm => ?_)) ?_))⟩⟩
          · have := mN_new (G := G4) (p := 300 * b (E / 300) k + b (E % 300) k) (by omega) (by omega) hnm
            omega
          · intro G5 hcm
            have hnum := hcm.num (by omega) (by omega)
            obtain ⟨c1, c2, c3, c4⟩ := id hcm
            have d1 : (300 * b (E / 300) k + b (E % 300) k) / 300 = b (E / 300) k := by omega
            have d2 : (300 * b (E / 300) k + b (E % 300) k) % 300 = b (E % 300) k := by omega
            -- the pile and what was met
            have hIn5 : ∀ q, mIn G5 q ↔ mIn G4 q ∨ (q = 300 * b (E / 300) k + b (E % 300) k ∧ ¬ mMet G4 q) := by
              intro q
              unfold mIn
              rcases c4 with ⟨r0, r1, r2⟩ | ⟨r0, r1, r2, r3⟩
              · rw [r1, r2]
                constructor
                · intro z; exact Or.inl z
                · rintro (z | ⟨z1, z2⟩)
                  · exact z
                  · rw [z1] at z2; exact absurd r0 z2
              · rw [r1]
                constructor
                · rintro ⟨j, p0, p1', p2'⟩
                  by_cases ej : j = G4 42 26
                  · rw [ej, r2] at p2'
                    exact Or.inr ⟨p2'.symm, by rw [← p2']; exact r0⟩
                  · rw [r3 j ej] at p2'
                    exact Or.inl ⟨j, p0, by omega, p2'⟩
                · rintro (⟨j, p0, p1', p2'⟩ | ⟨z1, z2⟩)
                  · exact ⟨j, p0, by omega, by rw [r3 j (by omega)]; exact p2'⟩
                  · exact ⟨G4 42 26, by omega, by omega, by rw [r2, z1]⟩
            have hL5 : mL h G5 = mL h G4 := by
              refine mf_cnt_congr (fun t t0 _ => ?_)
              rw [hIn5, c3 t t0]
              constructor
              · rintro ⟨z1, z2, z3⟩
                refine ⟨?_, z2, fun r => z3 (Or.inl r)⟩
                rcases z1 with z1 | z1
                · exact z1
                · apply Classical.byContradiction
                  intro r
                  exact z3 (Or.inr ⟨z1, r⟩)
              · rintro ⟨z1, z2, z3⟩
                refine ⟨Or.inl z1, z2, ?_⟩
                rintro (r | r)
                · exact z3 r
                · exact r.2 z1
            have y0' : mP c h b x y G G5 := by
              refine ⟨fun k p q r s => by rw [c1 k p r s]; exact v1 k p q r s, fun j p => (c2 j p).trans (v2 j p), by omega, fun q q0 q1 q2 => ?_, fun j p q => ?_, fun i j i0 i1 q0 q1 => ?_, (c3 _ (by omega)).mpr (Or.inl v7)⟩
              · rcases (c3 q q0).mp q2 with r | r
                · exact v4' q q0 q1 r
                · rw [r, d1, d2]
                  exact ⟨dc1, dc2, fun P s1 s2 => s2 _ _ da dd (hC P s1 s2) p1 p2 k k0 (by omega)⟩
              · rcases c4 with ⟨-, r1, r2⟩ | ⟨-, r1, r2, r3⟩
                · rw [r1] at q
                  rw [r2]
                  obtain ⟨w1, w2⟩ := v5' j p q
                  exact ⟨w1, (c3 _ w1.1).mpr (Or.inl w2)⟩
                · by_cases ej : j = G4 42 26
                  · rw [ej, r2]
                    exact ⟨⟨by omega, by omega⟩, (c3 _ (by omega)).mpr (Or.inr rfl)⟩
                  · rw [r3 j ej]
                    obtain ⟨w1, w2⟩ := v5' j p (by omega)
                    exact ⟨w1, (c3 _ w1.1).mpr (Or.inl w2)⟩
              · rcases c4 with ⟨-, r1, r2⟩ | ⟨r0, r1, r2, r3⟩
                · rw [r2]; exact v6 i j i0 (by omega) q0 (by omega)
                · by_cases ei : i = G4 42 26 <;> by_cases ej : j = G4 42 26
                  · intro _; rw [ei, ej]
                  · rw [ei, r2, r3 j ej]
                    intro z
                    rw [z] at r0
                    exact absurd (v5' j q0 (by omega)).2 r0
                  · rw [ej, r2, r3 i ei]
                    intro z
                    rw [← z] at r0
                    exact absurd (v5' i i0 (by omega)).2 r0
                  · rw [r3 i ei, r3 j ej]
                    exact v6 i j i0 (by omega) q0 (by omega)
            refine ⟨by omega, ihf G5 _ (by omega) (by omega) y0' (by omega) (by rw [hL5]; exact y2) (by omega) ((c3 _ e1.1).mpr (Or.inl y4)) (fun q q0 q1 q2 => ?_) (fun j w0 w1 => ?_)⟩
            · rw [hIn5]
              have old : mMet G4 q → (mIn G4 q ∨ (q = 300 * b (E / 300) k + b (E % 300) k ∧ ¬ mMet G4 q)) ∨ mD2 h b G5 q ∨ q = E := by
                intro r0
                rcases y5 q q0 q1 r0 with r | r | r
                · exact Or.inl (Or.inl r)
                · right; left
                  obtain ⟨dq1, dq2, -⟩ := v4' q q0 q1 r0
                  intro ht' k' k0' k1'
                  refine (c3 _ ?_).mpr (Or.inl (r ht' k' k0' k1'))
                  have := (hBd dq1 k0' k1').1
                  have := (hBd dq2 k0' (by rw [← ht'.2]; exact k1')).1
                  omega
                · exact Or.inr (Or.inr r)
              rcases (c3 q q0).mp q2 with r | r
              · exact old r
              · by_cases r0 : mMet G4 q
                · exact old r0
                · exact Or.inl (Or.inr ⟨r, r0⟩)
            · by_cases ej : j = k
              · rw [ej]; exact (c3 _ (by omega)).mpr (Or.inr rfl)
              · have w2 := (hBd da w0 (by omega)).1
                have w3 := (hBd dd w0 (by rw [← p2]; omega)).1
                exact (c3 _ (by omega)).mpr (Or.inl (y6 j w0 (by omega)))
      refine inner (mf_w (h (E / 300))).toNat G3 0 (by omega) (by omega) uP (by omega) (by rw [uL0 ht]; omega) (by omega) ((uM E).mpr e2) uS (fun j w0 w1 => by omega)
    · -- a leaf
      have ht : ¬ tal h E := p2
      refine ⟨by omega, fun _ => ⟨by omega, vc_119_144 ⟨fun _ => ih G3 _ _ uP (by omega) (by omega) (by rw [uL1 ht]; omega) (by omega) (fun q q0 q1 q2 => ?_), fun z => absurd rfl z⟩⟩, fun z => absurd rfl z⟩
      rcases uS q q0 q1 q2 with r | r | r
      · exact Or.inl r
      · exact Or.inr r
      · right
        rw [r]
        exact fun z => absurd z ht
end
