-- SPEC S: the reference: what is finite
section
variable {l : Launch} {G : tf_Sto} {n c : Int} {hd : Int → Int} {ch : Int → Int → Int} {E : List (Int × Int)}
def mz (c : Int) (h : Int → Int) (b : Int → Int → Int) (G : tf_Sto) : Prop := ∀ x, mf_dom c x → (G 57 x ≠ 0 ↔ tfin c h b x) ∧ (G 57 x ≠ 0 → G 58 x = mf_szs (G 58) (b x) (mf_w (h x)) ∧ G 59 x = if h x = -1 then 0 else mf_dps (G 59) (b x) (mf_w (h x)))
def mzi (c : Int) (h : Int → Int) (b : Int → Int → Int) (G : tf_Sto) : Prop := ∀ x, mf_dom c x → G 57 x ≠ 0 → tfin c h b x ∧ (∀ k, 0 ≤ k → k < mf_w (h x) → G 57 (b x k) ≠ 0) ∧ (1 ≤ G 58 x ∧ G 58 x ≤ 1000000000000) ∧ (0 ≤ G 59 x ∧ G 59 x ≤ mf_cnt (fun z => G 57 z ≠ 0) c.toNat) ∧
  G 58 x = mf_szs (G 58) (b x) (mf_w (h x)) ∧ G 59 x = if h x = -1 then 0 else mf_dps (G 59) (b x) (mf_w (h x))
set_option maxHeartbeats 2000000 in
theorem sp_103 (hm : mtc n hd ch c G) : tf_RUN l 103 [tf_r 42] G (tf_PV fun G' => (∀ k : Nat, k ≠ 57 → k ≠ 58 → k ≠ 59 → G' k = G k) ∧ mz c (mH hd G) (mB ch G) G') := by
  have hc := hm.2.2.1
  refine vc_103 ?_
  generalize hPo : (tf_PV fun G' => (∀ k : Nat, k ≠ 57 → k ≠ 58 → k ≠ 59 → G' k = G k) ∧ mz c (mH hd G) (mB ch G) G') = Po
  have hkp : ∀ {G1 : tf_Sto}, (∀ k : Nat, k ≠ 57 → k ≠ 58 → k ≠ 59 → G1 k = G k) → mkp G G1 := fun hf => ⟨fun k a b => hf k (by omega) (by omega) (by omega), fun j _ _ => by rw [hf 42 (by decide) (by decide) (by decide)]⟩
  have outer : ∀ (d : Nat) (G1 : tf_Sto) (more : Int), (∀ k : Nat, k ≠ 57 → k ≠ 58 → k ≠ 59 → G1 k = G k) → mzi c (mH hd G) (mB ch G) G1 →
      ((more = 1 ∧ c - mf_cnt (fun z => G1 57 z ≠ 0) c.toNat + 1 ≤ d) ∨ (more = 0 ∧ ∀ x, mf_dom c x → G1 57 x = 0 → ∃ k, 0 ≤ k ∧ k < mf_w (mH hd G x) ∧ G1 57 (mB ch G x k) = 0)) → tf_AW l 103 none Po 25 [(0, tf_r 42), (1, tf_i more)] [] (none, false) G1 := by
    intro d
    induction d with
    | zero =>
      intro G1 more hf hi hmo
      rcases hmo with ⟨rfl, h1⟩ | ⟨rfl, h1⟩
      · have := (mf_cnt_in (fun z => G1 57 z ≠ 0) c.toNat).2
        omega
      · refine vc_103_25 ⟨fun _ => ?_, fun z => absurd rfl z⟩
        rw [← hPo]
        refine tf_pv ⟨hf, fun x hx => ⟨⟨fun q => (hi x hx q).1, fun q => ?_⟩, fun q => ⟨(hi x hx q).2.2.2.2.1, (hi x hx q).2.2.2.2.2⟩⟩⟩
        refine q (fun z => G1 57 z ≠ 0) (fun y hy hyc => ?_)
        intro z
        obtain ⟨k, k0, k1, k2⟩ := h1 y hy z
        exact hyc k k0 k1 k2
    | succ d ih =>
      intro G1 more hf hi hmo
      rcases hmo with ⟨rfl, h1⟩ | ⟨rfl, h1⟩
      · refine vc_103_25 ⟨fun z => by omega, fun _ => ?_⟩
        have inner : ∀ (f : Nat) (G2 : tf_Sto) (m k : Int), 0 ≤ k → k + f = c → (m = 0 ∨ m = 1) → (∀ k : Nat, k ≠ 57 → k ≠ 58 → k ≠ 59 → G2 k = G k) → mzi c (mH hd G) (mB ch G) G2 →
            ((m = 0 ∧ ∀ j, 0 ≤ j → j < k → G2 57 j = 0 → ∃ i, 0 ≤ i ∧ i < mf_w (mH hd G j) ∧ G2 57 (mB ch G j i) = 0) ∨ (m = 1 ∧ mf_cnt (fun z => G1 57 z ≠ 0) c.toNat < mf_cnt (fun z => G2 57 z ≠ 0) c.toNat)) → mf_cnt (fun z => G1 57 z ≠ 0) c.toNat ≤ mf_cnt (fun z => G2 57 z ≠ 0) c.toNat →
            tf_AW l 103 none Po 33 [(0, tf_r 42), (1, tf_i m), (2, tf_i k)] [] (none, false) G2 := by
          intro f
          induction f with
          | zero =>
            intro G2 m k k0 k1 hm01 hf2 hi2 hmm hle
            have e18 : G2 42 18 = c := by rw [hf2 42 (by decide) (by decide) (by decide)]; exact hm.2.1
            refine vc_103_33 ⟨fun _ => ih G2 m hf2 hi2 ?_, fun z => by omega⟩
            rcases hmm with ⟨q1, q2⟩ | ⟨q1, q2⟩
            · exact Or.inr ⟨q1, fun x hx => q2 x hx.1 (by have := hx.2; omega)⟩
            · exact Or.inl ⟨q1, by omega⟩
          | succ f ihf =>
            intro G2 m k k0 k1 hm01 hf2 hi2 hmm hle
            have e18 : G2 42 18 = c := by rw [hf2 42 (by decide) (by decide) (by decide)]; exact hm.2.1
            have dk : mf_dom c k := ⟨k0, by omega⟩
            have bk' := hm.b dk
            have hcnt := mf_cnt_in (fun z => G2 57 z ≠ 0) c.toNat
            refine vc_103_33 ⟨fun z => by omega, fun _ => ⟨bk', fun q => ⟨by omega, ihf G2 m _ (by omega) (by omega) hm01 hf2 hi2 ?_ hle⟩, fun q => ?_⟩⟩
            · rcases hmm with ⟨q1, q2⟩ | hmm
              · refine Or.inl ⟨q1, fun j j0 j1 j2 => ?_⟩
                by_cases e : j = k
                · rw [e] at j2; exact absurd j2 q
                · exact q2 j j0 (by omega) j2
              · exact Or.inr hmm
            · have hkp2 := hkp hf2
              have hsp := sp_104 (l := l) (hm.kp hkp2) (fun y hy z => by
                obtain ⟨-, -, b1, b2, -⟩ := hi2 y hy z
                exact ⟨b1, b2.1, by omega⟩) dk
              rw [hkp2.H, hkp2.B] at hsp
              refine tf_ri hsp ?_
              clear hsp
              rintro r G3 ⟨g1, g2, g3⟩
              have e57 : G3 57 = G2 57 := g1 57 (by decide) (by decide)
              have hf3 : ∀ k : Nat, k ≠ 57 → k ≠ 58 → k ≠ 59 → G3 k = G k := fun j a b e => (g1 j b e).trans (hf2 j a b e)
              -- what was finite stays as it was
              have hold : ∀ x, mf_dom c x → G2 57 x ≠ 0 → x ≠ k ∧ G3 58 x = G2 58 x ∧ G3 59 x = G2 59 x ∧ mf_szs (G3 58) (mB ch G x) (mf_w (mH hd G x)) = mf_szs (G2 58) (mB ch G x) (mf_w (mH hd G x)) ∧ mf_dps (G3 59) (mB ch G x) (mf_w (mH hd G x)) = mf_dps (G2 59) (mB ch G x) (mf_w (mH hd G x)) := by
                intro x hx z
                have hne : x ≠ k := fun e => by rw [e] at z; exact z q
                have hcne : ∀ i, 0 ≤ i → i < mf_w (mH hd G x) → mB ch G x i ≠ k := fun i i0 i1 e => by
                  have := (hi2 x hx z).2.1 i i0 i1
                  rw [e] at this
                  exact this q
                exact ⟨hne, (g2 x hne).1, (g2 x hne).2, mf_szs_congr (fun i i0 i1 => (g2 _ (hcne i i0 i1)).1), mf_dps_congr (fun i i0 i1 => (g2 _ (hcne i i0 i1)).2)⟩
              rcases g3 with ⟨rfl, c1, c2, c3⟩ | ⟨rfl, c1⟩
              · -- one more is finite
                refine ⟨fun _ => ⟨bk', by decide, by omega, ?_⟩, fun z => by omega⟩
                have u57 : ∀ y, tf_up G3 57 k 1 57 y = if y = k then 1 else G2 57 y := fun y => by rw [tf_up_eq, e57]
                have u58 : tf_up G3 57 k 1 58 = G3 58 := tf_upo (by decide)
                have u59 : tf_up G3 57 k 1 59 = G3 59 := tf_upo (by decide)
                have hnew : mf_cnt (fun z => tf_up G3 57 k 1 57 z ≠ 0) c.toNat = mf_cnt (fun z => G2 57 z ≠ 0) c.toNat + 1 := by
                  refine mf_cnt_add (P := fun z => G2 57 z ≠ 0) (Q := fun z => tf_up G3 57 k 1 57 z ≠ 0) (a := k) k0 (by omega) (fun z => z q) (fun t t0 t1 => ?_)
                  show tf_up G3 57 k 1 57 t ≠ 0 ↔ G2 57 t ≠ 0 ∨ t = k
                  rw [u57]
                  by_cases e : t = k
                  · rw [if_pos e]; exact ⟨fun _ => Or.inr e, fun _ => by decide⟩
                  · rw [if_neg e]; exact ⟨fun z => Or.inl z, fun z => z.resolve_right e⟩
                have hcne : ∀ i, 0 ≤ i → i < mf_w (mH hd G k) → mB ch G k i ≠ k := fun i i0 i1 e => by
                  have := c1 i i0 i1
                  rw [e] at this
                  exact this q
                have hchd : ∀ i, 0 ≤ i → i < mf_w (mH hd G k) → mf_dom c (mB ch G k i) := fun i i0 i1 => hm.B dk i0 i1
                refine ihf _ 1 _ (by omega) (by omega) (Or.inr rfl) (fun j a b e => by rw [tf_upo a]; exact hf3 j a b e) ?_ (Or.inr ⟨rfl, by omega⟩) (by omega)
                intro x hx
                rw [u57, u58, u59, hnew]
                by_cases e : x = k
                · intro _
                  subst e
                  have hs1 : mf_szs (G3 58) (mB ch G x) (mf_w (mH hd G x)) = mf_szs (G2 58) (mB ch G x) (mf_w (mH hd G x)) := mf_szs_congr (fun i i0 i1 => (g2 _ (hcne i i0 i1)).1)
                  have hs2 : mf_dps (G3 59) (mB ch G x) (mf_w (mH hd G x)) = mf_dps (G2 59) (mB ch G x) (mf_w (mH hd G x)) := mf_dps_congr (fun i i0 i1 => (g2 _ (hcne i i0 i1)).2)
                  refine ⟨tfin_in hx (fun i i0 i1 => (hi2 _ (hchd i i0 i1) (c1 i i0 i1)).1), fun i i0 i1 => ?_, ?_, ?_, ?_, ?_⟩
                  · rw [u57, if_neg (hcne i i0 i1)]; exact c1 i i0 i1
                  · rw [c2]
                    exact mf_szs_in (mf_w_in _) (fun i i0 i1 => (hi2 _ (hchd i i0 i1) (c1 i i0 i1)).2.2.1)
                  · rw [c3]
                    have := mf_dps_in (f := G2 59) (b := mB ch G x) (w := mf_w (mH hd G x)) hcnt.1 (fun i i0 i1 => (hi2 _ (hchd i i0 i1) (c1 i i0 i1)).2.2.2.1)
                    split <;> omega
                  · rw [c2, hs1]
                  · rw [c3, hs2]
                · rw [if_neg e]
                  intro z
                  obtain ⟨o1, o2, o3, o4, o5⟩ := hold x hx z
                  obtain ⟨y1, y2, y3, y4, y5, y6⟩ := hi2 x hx z
                  refine ⟨y1, fun i i0 i1 => ?_, by rw [o2]; exact y3, by rw [o3]; omega, by rw [o2, o4]; exact y5, by rw [o3, o5]; exact y6⟩
                  rw [u57]
                  by_cases e2 : mB ch G x i = k
                  · rw [if_pos e2]; decide
                  · rw [if_neg e2]; exact y2 i i0 i1
              · -- not yet
                refine ⟨fun z => absurd rfl z, fun _ => ⟨by omega, ihf G3 m _ (by omega) (by omega) hm01 hf3 ?_ ?_ (by rw [e57]; exact hle)⟩⟩
                · intro x hx
                  rw [e57]
                  intro z
                  obtain ⟨o1, o2, o3, o4, o5⟩ := hold x hx z
                  obtain ⟨y1, y2, y3, y4, y5, y6⟩ := hi2 x hx z
                  exact ⟨y1, y2, by rw [o2]; exact y3, by rw [o3]; exact y4, by rw [o2, o4]; exact y5, by rw [o3, o5]; exact y6⟩
                · rw [e57]
                  rcases hmm with ⟨q1, q2⟩ | hmm
                  · refine Or.inl ⟨q1, fun j j0 j1 j2 => ?_⟩
                    by_cases e : j = k
                    · rw [e]; exact c1
                    · exact q2 j j0 (by omega) j2
                  · exact Or.inr hmm
        exact inner c.toNat G1 0 0 (by omega) (by omega) (Or.inl rfl) hf hi (Or.inl ⟨rfl, fun j j0 j1 => by omega⟩) (Int.le_refl _)
      · refine vc_103_25 ⟨fun _ => ?_, fun z => absurd rfl z⟩
        rw [← hPo]
        refine tf_pv ⟨hf, fun x hx => ⟨⟨fun q => (hi x hx q).1, fun q => ?_⟩, fun q => ⟨(hi x hx q).2.2.2.2.1, (hi x hx q).2.2.2.2.2⟩⟩⟩
        refine q (fun z => G1 57 z ≠ 0) (fun y hy hyc => ?_)
        intro z
        obtain ⟨k, k0, k1, k2⟩ := h1 y hy z
        exact hyc k k0 k1 k2
  have init : ∀ (d : Nat) (G1 : tf_Sto) (k : Int), 0 ≤ k → k + d = c → (∀ k : Nat, k ≠ 57 → G1 k = G k) → (∀ j, 0 ≤ j → j < k → G1 57 j = 0) → tf_AW l 103 none Po 2 [(0, tf_r 42), (1, tf_i k)] [] (none, false) G1 := by
    intro d
    induction d with
    | zero =>
      intro G1 k k0 k1 hf hz
      have e18 : G1 42 18 = c := by rw [hf 42 (by decide)]; exact hm.2.1
      refine vc_103_2 ⟨fun _ => outer (c + 1).toNat G1 1 (fun k a _ _ => hf k a) (fun x hx z => absurd (hz x hx.1 (by have := hx.2; omega)) z) (Or.inl ⟨rfl, ?_⟩), fun z => by omega⟩
      have := (mf_cnt_in (fun z => G1 57 z ≠ 0) c.toNat).1
      omega
    | succ d ih =>
      intro G1 k k0 k1 hf hz
      have e18 : G1 42 18 = c := by rw [hf 42 (by decide)]; exact hm.2.1
      refine vc_103_2 ⟨fun z => by omega, fun _ => ⟨by omega, by decide, by omega, ih _ _ (by omega) (by omega) (fun j a => by rw [tf_upo a]; exact hf j a) (fun j j0 j1 => ?_)⟩⟩
      rw [tf_up_eq]
      by_cases e : j = k
      · rw [if_pos e]
      · rw [if_neg e]; exact hz j j0 (by omega)
  exact init c.toNat G 0 (by omega) (by omega) (fun _ _ => rfl) (fun j j0 j1 => by omega)
end
