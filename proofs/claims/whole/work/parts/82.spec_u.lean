-- SPEC U: the reference: what is in a tree
section
variable {l : Launch} {G : tf_Sto} {n c : Int} {hd : Int → Int} {ch : Int → Int → Int}
set_option maxHeartbeats 2000000 in
theorem sp_102 (hm : mtc n hd ch c G) {x : Int} (hx : mf_dom c x) : tf_RUN l 102 [tf_r 42, tf_i x] G (tf_PV fun G' => (∀ k : Nat, k ≠ 56 → G' k = G k) ∧ ∀ y, mf_dom c y → (G' 56 y ≠ 0 ↔ treach c (mH hd G) (mB ch G) x y)) := by
  have hc := hm.2.2.1
  refine vc_102 ?_
  generalize hPo : (tf_PV fun G' => (∀ k : Nat, k ≠ 56 → G' k = G k) ∧ ∀ y, mf_dom c y → (G' 56 y ≠ 0 ↔ treach c (mH hd G) (mB ch G) x y)) = Po
  have hkp : ∀ {G1 : tf_Sto}, (∀ k : Nat, k ≠ 56 → G1 k = G k) → mkp G G1 := fun hf => ⟨fun k a b => hf k (by omega), fun j _ _ => by rw [hf 42 (by decide)]⟩
  have fin : ∀ (G1 : tf_Sto), (∀ k : Nat, k ≠ 56 → G1 k = G k) → G1 56 x ≠ 0 → (∀ y, mf_dom c y → G1 56 y ≠ 0 → treach c (mH hd G) (mB ch G) x y) → (∀ z, mf_dom c z → G1 56 z ≠ 0 → ∀ i, 0 ≤ i → i < mf_w (mH hd G z) → G1 56 (mB ch G z i) ≠ 0) → Po (.inl none) G1 := by
    intro G1 h1 h2 h3 h4
    rw [← hPo]
    exact tf_pv ⟨h1, fun y hy => ⟨h3 y hy, fun q => q (fun w => G1 56 w ≠ 0) h2 h4⟩⟩
  have outer : ∀ (d : Nat) (G1 : tf_Sto) (more : Int), (∀ k : Nat, k ≠ 56 → G1 k = G k) → G1 56 x ≠ 0 → (∀ y, mf_dom c y → G1 56 y ≠ 0 → treach c (mH hd G) (mB ch G) x y) →
      ((more = 1 ∧ c - mf_cnt (fun z => G1 56 z ≠ 0) c.toNat + 1 ≤ d) ∨ (more = 0 ∧ ∀ z, mf_dom c z → G1 56 z ≠ 0 → ∀ i, 0 ≤ i → i < mf_w (mH hd G z) → G1 56 (mB ch G z i) ≠ 0)) → tf_AW l 102 none Po 34 [(0, tf_r 42), (2, tf_i more)] [] (none, false) G1 := by
    intro d
    induction d with
    | zero =>
      intro G1 more hf h1 h2 hmo
      rcases hmo with ⟨rfl, h3⟩ | ⟨rfl, h3⟩
      · have := (mf_cnt_in (fun z => G1 56 z ≠ 0) c.toNat).2
        omega
      · exact vc_102_34 ⟨fun _ => fin G1 hf h1 h2 h3, fun z => absurd rfl z⟩
    | succ d ih =>
      intro G1 more hf h1 h2 hmo
      rcases hmo with ⟨rfl, h3⟩ | ⟨rfl, h3⟩
      · refine vc_102_34 ⟨fun z => by omega, fun _ => ?_⟩
        have mid : ∀ (f : Nat) (G2 : tf_Sto) (m k : Int), 0 ≤ k → k + f = c → (∀ k : Nat, k ≠ 56 → G2 k = G k) → G2 56 x ≠ 0 → (∀ y, mf_dom c y → G2 56 y ≠ 0 → treach c (mH hd G) (mB ch G) x y) → mf_cnt (fun z => G1 56 z ≠ 0) c.toNat ≤ mf_cnt (fun z => G2 56 z ≠ 0) c.toNat →
            ((m = 0 ∧ ∀ z, 0 ≤ z → z < k → G2 56 z ≠ 0 → ∀ i, 0 ≤ i → i < mf_w (mH hd G z) → G2 56 (mB ch G z i) ≠ 0) ∨ (m = 1 ∧ mf_cnt (fun z => G1 56 z ≠ 0) c.toNat < mf_cnt (fun z => G2 56 z ≠ 0) c.toNat)) →
            tf_AW l 102 none Po 42 [(0, tf_r 42), (2, tf_i m), (3, tf_i k)] [] (none, false) G2 := by
          intro f
          induction f with
          | zero =>
            intro G2 m k k0 k1 hf2 g1 g2 hle hmm
            have e18 : G2 42 18 = c := by rw [hf2 42 (by decide)]; exact hm.2.1
            refine vc_102_42 ⟨fun _ => ih G2 m hf2 g1 g2 ?_, fun z => by omega⟩
            rcases hmm with ⟨q1, q2⟩ | ⟨q1, q2⟩
            · exact Or.inr ⟨q1, fun z hz => q2 z hz.1 (by have := hz.2; omega)⟩
            · exact Or.inl ⟨q1, by omega⟩
          | succ f ihf =>
            intro G2 m k k0 k1 hf2 g1 g2 hle hmm
            have e18 : G2 42 18 = c := by rw [hf2 42 (by decide)]; exact hm.2.1
            have dk : mf_dom c k := ⟨k0, by omega⟩
            have bk' := hm.b dk
            have hwk := mf_w_in (mH hd G k)
            refine vc_102_42 ⟨fun z => by omega, fun _ => ?_⟩
            have inner : ∀ (e : Nat) (G3 : tf_Sto) (m i : Int), 0 ≤ i → i + e = mf_w (mH hd G k) → (∀ k : Nat, k ≠ 56 → G3 k = G k) → G3 56 x ≠ 0 → (∀ y, mf_dom c y → G3 56 y ≠ 0 → treach c (mH hd G) (mB ch G) x y) → mf_cnt (fun z => G1 56 z ≠ 0) c.toNat ≤ mf_cnt (fun z => G3 56 z ≠ 0) c.toNat →
                ((m = 0 ∧ (∀ z, 0 ≤ z → z < k → G3 56 z ≠ 0 → ∀ i, 0 ≤ i → i < mf_w (mH hd G z) → G3 56 (mB ch G z i) ≠ 0) ∧ (∀ j, 0 ≤ j → j < i → G3 56 (mB ch G k j) ≠ 0)) ∨ (m = 1 ∧ mf_cnt (fun z => G1 56 z ≠ 0) c.toNat < mf_cnt (fun z => G3 56 z ≠ 0) c.toNat)) →
                tf_AW l 102 none Po 53 [(0, tf_r 42), (2, tf_i m), (3, tf_i k), (4, tf_i i)] [] (none, false) G3 := by
              intro e
              induction e with
              | zero =>
                intro G3 m i i0 i1 hf3 a1 a2 a3 a4
                have hsp := sp_99 (l := l) (hm.kp (hkp hf3)) dk
                rw [(hkp hf3).H] at hsp
                have nx : tf_AW l 102 none Po 42 [(0, tf_r 42), (2, tf_i m), (3, tf_i (k + 1))] [] (none, false) G3 := by
                  refine ihf G3 m _ (by omega) (by omega) hf3 a1 a2 a3 ?_
                  rcases a4 with ⟨q1, q2, q3⟩ | a4
                  · refine Or.inl ⟨q1, fun z z0 z1 zz j j0 j1 => ?_⟩
                    by_cases ez : z = k
                    · rw [ez] at j1 ⊢; exact q3 j j0 (by omega)
                    · exact q2 z z0 (by omega) zz j j0 j1
                  · exact Or.inr a4
                exact vc_102_53 ⟨bk', fun _ => ⟨by omega, nx⟩, fun _ => tf_re hsp ⟨fun _ => ⟨by omega, nx⟩, fun z => by omega⟩⟩
              | succ e ihe =>
                intro G3 m i i0 i1 hf3 a1 a2 a3 a4
                have hmk := hm.kp (hkp hf3)
                have hsp := sp_99 (l := l) hmk dk
                rw [(hkp hf3).H] at hsp
                have hsp2 := sp_98 (l := l) hmk dk i0 (by rw [(hkp hf3).H]; omega)
                rw [(hkp hf3).B] at hsp2
                have dB : mf_dom c (mB ch G k i) := hm.B dk i0 (by omega)
                have bB := hm.b dB
                have nx0 : G3 56 k = 0 → tf_AW l 102 none Po 42 [(0, tf_r 42), (2, tf_i m), (3, tf_i (k + 1))] [] (none, false) G3 := by
                  intro hk0
                  refine ihf G3 m _ (by omega) (by omega) hf3 a1 a2 a3 ?_
                  rcases a4 with ⟨q1, q2, q3⟩ | a4
                  · refine Or.inl ⟨q1, fun z z0 z1 zz j j0 j1 => ?_⟩
                    by_cases ez : z = k
                    · rw [ez] at zz; exact absurd hk0 zz
                    · exact q2 z z0 (by omega) zz j j0 j1
                  · exact Or.inr a4
                -- the store with one more set
                have u56 : ∀ y, tf_up G3 56 (mB ch G k i) 1 56 y = if y = mB ch G k i then 1 else G3 56 y := fun y => tf_up_eq
                have keep : ∀ y, G3 56 y ≠ 0 → tf_up G3 56 (mB ch G k i) 1 56 y ≠ 0 := fun y hy => by
                  rw [u56]; split
                  · decide
                  · exact hy
                have hfu : ∀ j : Nat, j ≠ 56 → tf_up G3 56 (mB ch G k i) 1 j = G j := fun j hj => by rw [tf_upo hj]; exact hf3 j hj
                have hle : mf_cnt (fun z => G3 56 z ≠ 0) c.toNat ≤ mf_cnt (fun z => tf_up G3 56 (mB ch G k i) 1 56 z ≠ 0) c.toNat := mf_cnt_le (fun t _ _ q => keep t q)
                have hsnd : G3 56 k ≠ 0 → ∀ y, mf_dom c y → tf_up G3 56 (mB ch G k i) 1 56 y ≠ 0 → treach c (mH hd G) (mB ch G) x y := by
                  intro hk y hy
                  rw [u56]
                  by_cases ey : y = mB ch G k i
                  · intro _
                    rw [ey]
                    exact treach_in dk (a2 k dk hk) i0 (by omega)
                  · rw [if_neg ey]; exact a2 y hy
                refine vc_102_53 ⟨bk', fun q => ⟨by omega, nx0 q⟩, fun q => tf_re hsp ⟨fun z => by omega, fun _ => ⟨fun qm => tf_re hsp2 ⟨bB, by decide, by omega, ?_⟩, fun qm => tf_re hsp2 ⟨bB, fun qu => tf_re hsp2 ⟨bB, by decide, by omega, ?_⟩, fun qu => tf_re hsp2 ⟨bB, by decide, by omega, ?_⟩⟩⟩⟩⟩
                · refine ihe _ 1 _ (by omega) (by omega) hfu (keep _ a1) (hsnd q) (by omega) (Or.inr ⟨rfl, ?_⟩)
                  rcases a4 with a4 | a4
                  · exact absurd a4.1 qm
                  · omega
                · refine ihe _ 0 _ (by omega) (by omega) hfu (keep _ a1) (hsnd q) (by omega) (Or.inl ⟨rfl, ?_, ?_⟩)
                  · rcases a4 with a4 | a4
                    · intro z z0 z1 zz j j0 j1
                      rw [u56] at zz
                      by_cases ez : z = mB ch G k i
                      · rw [ez] at z1 j1 ⊢
                        exact keep _ (a4.2.1 _ (by rw [← ez]; exact z0) z1 qu j j0 j1)
                      · rw [if_neg ez] at zz
                        exact keep _ (a4.2.1 z z0 z1 zz j j0 j1)
                    · omega
                  · rcases a4 with a4 | a4
                    · intro j j0 j1
                      by_cases ej : j = i
                      · rw [ej]; exact keep _ qu
                      · exact keep _ (a4.2.2 j j0 (by omega))
                    · omega
                · have hadd : mf_cnt (fun z => tf_up G3 56 (mB ch G k i) 1 56 z ≠ 0) c.toNat = mf_cnt (fun z => G3 56 z ≠ 0) c.toNat + 1 := by
                    refine mf_cnt_add (P := fun z => G3 56 z ≠ 0) (a := mB ch G k i) dB.1 (mf_dom_nat dB) (fun z => z qu) (fun t t0 t1 => ?_)
                    show tf_up G3 56 (mB ch G k i) 1 56 t ≠ 0 ↔ G3 56 t ≠ 0 ∨ t = mB ch G k i
                    rw [u56]
                    by_cases et : t = mB ch G k i
                    · rw [if_pos et]; exact ⟨fun _ => Or.inr et, fun _ => by decide⟩
                    · rw [if_neg et]; exact ⟨fun z => Or.inl z, fun z => z.resolve_right et⟩
                  exact ihe _ 1 _ (by omega) (by omega) hfu (keep _ a1) (hsnd q) (by omega) (Or.inr ⟨rfl, by omega⟩)
            refine inner (mf_w (mH hd G k)).toNat G2 m 0 (by omega) (by omega) hf2 g1 g2 hle ?_
            rcases hmm with ⟨q1, q2⟩ | hmm
            · exact Or.inl ⟨q1, q2, fun j j0 j1 => by omega⟩
            · exact Or.inr hmm
        exact mid c.toNat G1 0 0 (by omega) (by omega) hf h1 h2 (Int.le_refl _) (Or.inl ⟨rfl, fun z z0 z1 => by omega⟩)
      · exact vc_102_34 ⟨fun _ => fin G1 hf h1 h2 h3, fun z => absurd rfl z⟩
  have init : ∀ (d : Nat) (G1 : tf_Sto) (k : Int), 0 ≤ k → k + d = c → (∀ k : Nat, k ≠ 56 → G1 k = G k) → (∀ j, 0 ≤ j → j < k → G1 56 j = if j = x then 1 else 0) → tf_AW l 102 none Po 2 [(0, tf_r 42), (1, tf_i x), (2, tf_i k)] [] (none, false) G1 := by
    intro d
    induction d with
    | zero =>
      intro G1 k k0 k1 hf hz
      have e18 : G1 42 18 = c := by rw [hf 42 (by decide)]; exact hm.2.1
      refine vc_102_2 ⟨fun _ => outer (c + 1).toNat G1 1 hf ?_ (fun y hy z => ?_) (Or.inl ⟨rfl, ?_⟩), fun z => by omega⟩
      · rw [hz x hx.1 (by have := hx.2; omega), if_pos rfl]; decide
      · rw [hz y hy.1 (by have := hy.2; omega)] at z
        by_cases e : y = x
        · rw [e]; exact fun P p1 _ => p1
        · rw [if_neg e] at z; exact absurd rfl z
      · have := (mf_cnt_in (fun z => G1 56 z ≠ 0) c.toNat).1
        omega
    | succ d ih =>
      intro G1 k k0 k1 hf hz
      have e18 : G1 42 18 = c := by rw [hf 42 (by decide)]; exact hm.2.1
      have st : ∀ v, (v = if k = x then 1 else 0) → tf_AW l 102 none Po 2 [(0, tf_r 42), (1, tf_i x), (2, tf_i (k + 1))] [] (none, false) (tf_up G1 56 k v) := by
        intro v hv
        refine ih _ _ (by omega) (by omega) (fun j a => by rw [tf_upo a]; exact hf j a) (fun j j0 j1 => ?_)
        rw [tf_up_eq]
        by_cases e : j = k
        · rw [if_pos e, e]; exact hv
        · rw [if_neg e]; exact hz j j0 (by omega)
      exact vc_102_2 ⟨fun z => by omega, fun _ => ⟨fun q => ⟨by omega, by decide, by omega, st 0 (by rw [if_neg q])⟩, fun q => ⟨by omega, by decide, by omega, st 1 (by rw [if_pos q])⟩⟩⟩
  exact init c.toNat G 0 (by omega) (by omega) (fun _ _ => rfl) (fun j j0 j1 => by omega)
theorem mf_cnt_step {P : Int → Prop} {k : Int} (hk : 0 ≤ k) : mf_cnt P (k + 1).toNat = mf_cnt P k.toNat + mf_b (P k) := by
  have e : (k + 1).toNat = k.toNat + 1 := by omega
  rw [e]
  show mf_cnt P k.toNat + mf_b (P (k.toNat : Int)) = _
  have : (k.toNat : Int) = k := by omega
  rw [this]
set_option maxHeartbeats 1000000 in
theorem sp_110 (hm : mtc n hd ch c G) {x lv : Int} (hx : mf_dom c x) : tf_RUN l 110 [tf_r 42, tf_i x, tf_i lv] G (tf_PI fun r G' => (∀ k : Nat, k ≠ 56 → G' k = G k) ∧ r = mf_cnt (fun y => treach c (mH hd G) (mB ch G) x y ∧ (lv = 0 ∨ mH hd G y = -1)) c.toNat) := by
  have hc := hm.2.2.1
  refine vc_110 (tf_rv (sp_102 hm hx) ?_)
  rintro G0 ⟨f0, r0⟩
  have hkp : mkp G G0 := ⟨fun k a b => f0 k (by omega), fun j _ _ => by rw [f0 42 (by decide)]⟩
  have hm0 := hm.kp hkp
  have e18 : G0 42 18 = c := hm0.2.1
  have key : ∀ (d : Nat) (v3 k : Int), 0 ≤ k → k + d = c → v3 = mf_cnt (fun y => treach c (mH hd G) (mB ch G) x y ∧ (lv = 0 ∨ mH hd G y = -1)) k.toNat → tf_AW l 110 none (tf_PI fun r G' => (∀ k : Nat, k ≠ 56 → G' k = G k) ∧ r = mf_cnt (fun y => treach c (mH hd G) (mB ch G) x y ∧ (lv = 0 ∨ mH hd G y = -1)) c.toNat) 10 [(0, tf_r 42), (2, tf_i lv), (3, tf_i v3), (4, tf_i k)] [] (none, false) G0 := by
    intro d
    induction d with
    | zero =>
      intro v3 k k0 k1 h
      have e : k = c := by omega
      rw [e] at h
      exact vc_110_10 ⟨fun _ => tf_pi ⟨f0, h⟩, fun z => by omega⟩
    | succ d ih =>
      intro v3 k k0 k1 h
      have dk : mf_dom c k := ⟨k0, by omega⟩
      have hle := mf_cnt_in (fun y => treach c (mH hd G) (mB ch G) x y ∧ (lv = 0 ∨ mH hd G y = -1)) k.toNat
      have y1 : (treach c (mH hd G) (mB ch G) x k ∧ (lv = 0 ∨ mH hd G k = -1)) → v3 + 1 = mf_cnt (fun y => treach c (mH hd G) (mB ch G) x y ∧ (lv = 0 ∨ mH hd G y = -1)) (k + 1).toNat := fun q => by rw [mf_cnt_step k0, mf_b1 q, h]
      have y0 : ¬ (treach c (mH hd G) (mB ch G) x k ∧ (lv = 0 ∨ mH hd G k = -1)) → v3 + 0 = mf_cnt (fun y => treach c (mH hd G) (mB ch G) x y ∧ (lv = 0 ∨ mH hd G y = -1)) (k + 1).toNat := fun q => by rw [mf_cnt_step k0, mf_b0 q, h]
      have hsp := sp_100 (l := l) hm0 dk
      rw [hkp.H] at hsp
      refine vc_110_10 ⟨fun z => by omega, fun _ => ⟨hm.b dk, fun q => ⟨by omega, by omega, ih _ _ (by omega) (by omega) (y0 (fun z => ?_))⟩, fun q => ⟨fun q2 => ⟨by omega, by omega, ih _ _ (by omega) (by omega) (y1 ⟨(r0 k dk).mp q, Or.inl q2⟩)⟩, fun q2 => tf_re hsp ?_⟩⟩⟩
      · exact (r0 k dk).mpr z.1 q
      · by_cases hl : mH hd G k = -1
        · rw [if_pos hl]
          exact ⟨fun z => by omega, fun _ => ⟨by omega, by omega, ih _ _ (by omega) (by omega) (y1 ⟨(r0 k dk).mp q, Or.inr hl⟩)⟩⟩
        · rw [if_neg hl]
          exact ⟨fun _ => ⟨by omega, by omega, ih _ _ (by omega) (by omega) (y0 (fun z => z.2.elim q2 hl))⟩, fun z => absurd rfl z⟩
  exact key c.toNat 0 0 (by omega) (by omega) rfl
end
