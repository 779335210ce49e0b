section
variable {l : Launch} {G : tf_Sto} {n : Int} {hd : Int → Int} {ch : Int → Int → Int} {m : Nat} {E : List (Int × Int)}
abbrev Qinst (a d r c : Int) (h : Int → Int) (b : Int → Int → Int) (f : Int → Int) : Prop := (r = 1 ∧ tmatch c h b (f a) (f d)) ∨ (r = 0 ∧ ¬ tmatch c h b (f a) (f d))
abbrev Qvari (a d r c : Int) (h : Int → Int) (b : Int → Int → Int) (f : Int → Int) : Prop := (r = 1 ∧ tmatch c h b (f a) (f d) ∧ tmatch c h b (f d) (f a)) ∨ (r = 0 ∧ ¬ (tmatch c h b (f a) (f d) ∧ tmatch c h b (f d) (f a)))
abbrev Qcom (a d what r c : Int) (h : Int → Int) (b : Int → Int → Int) (f : Int → Int) : Prop := r = tcom c h b (f a) (f d) what
theorem sp_117 (h : MV n hd ch m G) {a b : Int} : tf_RUN l 117 [tf_r 42, tf_i a, tf_i b] G (tf_PI (mQ n hd ch (mf_E (G 46) (G 47) m) G (mf_dom n a ∧ mf_dom n b) (Qinst a b))) := by
  have en := h.1.1
  have n3 := h.2.1.2
  refine vc_117 (tf_ri sp_81 fun r G1 h1 => ?_)
  rw [en] at h1
  refine ⟨fun q => ?_, fun q => ?_⟩
  · rcases h1 with ⟨_, ⟨ha, hb⟩, e⟩ | h1
    · subst e
      refine tf_rv (sp_96' (h.q mq.th)) fun G2 h2 => ?_
      obtain ⟨f2, t2, m2⟩ := h2
      rw [mq.th.eqs] at m2
      refine ⟨⟨ha.1, by have := ha.2; omega⟩, ⟨hb.1, by have := hb.2; omega⟩, ?_⟩
      refine tf_ri (sp_116 m2.tc (m2.2.2.1.1.1 a ha) (m2.2.2.1.1.1 b hb)) fun r G3 h3 => ?_
      obtain ⟨f3, g3, r3⟩ := h3
      have q3 : mq G2 G3 := ⟨fun k k1 k2 _ _ _ => f3 k k1 (by omega) (by omega) (by omega), fun j _ _ _ j1 _ => g3 j j1⟩
      refine ⟨by rcases r3 with r3 | r3 <;> omega, tf_pi ⟨(mq.th.trans f2).trans q3, Or.inl ⟨⟨ha, hb⟩, by rw [g3 0 (by decide), t2, tf_up_at], m2.A r3⟩⟩⟩
    · omega
  · rcases h1 with h1 | ⟨_, h1, e⟩
    · omega
    · subst e
      exact ⟨Or.inl rfl, tf_pi ⟨mq.th, Or.inr ⟨h1, by rw [tf_up_at]⟩⟩⟩
theorem mt.kq {G' : tf_Sto} (hm : mt n hd ch E G) (f3 : ∀ k : Nat, k ≠ 42 → k ≠ 60 → k ≠ 61 → k ≠ 62 → G' k = G k) (g3 : ∀ j : Int, j ≠ 26 → G' 42 j = G 42 j) : mt n hd ch E G' ∧ mH hd G' = mH hd G ∧ mB ch G' = mB ch G := by
  have k3 : mkp G G' := ⟨fun k k1 k2 => f3 k (by omega) (by omega) (by omega) (by omega), fun j j1 _ => g3 j j1⟩
  obtain ⟨m21, m22, m23, m24, m25⟩ := hm
  refine ⟨⟨m21.fr (g3 1 (by decide)) (k3.1 43 (by decide) (by decide)) (k3.1 44 (by decide) (by decide)) (k3.1 45 (by decide) (by decide)) (k3.1 50 (by decide) (by decide)) (k3.1 51 (by decide) (by decide)), ?_, ?_, ?_, ?_⟩, k3.H, k3.B⟩
  · rw [k3.1 50 (by decide) (by decide), k3.1 51 (by decide) (by decide)]; exact m22
  · rw [g3 18 (by decide), k3.1 53 (by decide) (by decide)]; exact m23
  · rw [g3 18 (by decide)]; exact m24
  · rw [g3 18 (by decide), k3.1 53 (by decide) (by decide), k3.1 55 (by decide) (by decide)]; exact m25
theorem sp_118 (h : MV n hd ch m G) {a b : Int} : tf_RUN l 118 [tf_r 42, tf_i a, tf_i b] G (tf_PI (mQ n hd ch (mf_E (G 46) (G 47) m) G (mf_dom n a ∧ mf_dom n b) (Qvari a b))) := by
  have en := h.1.1
  have n3 := h.2.1.2
  refine vc_118 (tf_ri sp_81 fun r G1 h1 => ?_)
  rw [en] at h1
  refine ⟨fun q => ?_, fun q => ?_⟩
  · rcases h1 with ⟨_, ⟨ha, hb⟩, e⟩ | h1
    · subst e
      refine tf_rv (sp_96' (h.q mq.th)) fun G2 h2 => ?_
      obtain ⟨f2, t2, m2⟩ := h2
      rw [mq.th.eqs] at m2
      have ba : 0 ≤ a ∧ a < 300 := ⟨ha.1, by have := ha.2; omega⟩
      have bb : 0 ≤ b ∧ b < 300 := ⟨hb.1, by have := hb.2; omega⟩
      refine ⟨ba, bb, ?_⟩
      refine tf_ri (sp_116 m2.tc (m2.2.2.1.1.1 a ha) (m2.2.2.1.1.1 b hb)) fun r G3 h3 => ?_
      obtain ⟨f3, g3, r3⟩ := h3
      have q3 : mq G2 G3 := ⟨fun k k1 k2 _ _ _ => f3 k k1 (by omega) (by omega) (by omega), fun j _ _ _ j1 _ => g3 j j1⟩
      refine ⟨fun q => ⟨Or.inl rfl, tf_pi ⟨(mq.th.trans f2).trans q3, Or.inl ⟨⟨ha, hb⟩, by rw [g3 0 (by decide), t2, tf_up_at], m2.A (Or.inr ⟨rfl, fun g => ?_⟩)⟩⟩⟩, fun q => ⟨bb, ba, ?_⟩⟩
      · rcases r3 with r3 | r3
        · omega
        · exact r3.2 g.1
      · obtain ⟨m3, eH, eB⟩ := m2.kq f3 g3
        rw [f3 53 (by decide) (by decide) (by decide) (by decide)]
        refine tf_ri (sp_116 m3.tc (by rw [g3 18 (by decide)]; exact m2.2.2.1.1.1 b hb) (by rw [g3 18 (by decide)]; exact m2.2.2.1.1.1 a ha)) fun r' G4 h4 => ?_
        obtain ⟨f4, g4, r4⟩ := h4
        rw [eH, eB, g3 18 (by decide)] at r4
        have q4 : mq G3 G4 := ⟨fun k k1 k2 _ _ _ => f4 k k1 (by omega) (by omega) (by omega), fun j _ _ _ j1 _ => g4 j j1⟩
        have r31 : tmatch (G2 42 18) (mH hd G2) (mB ch G2) (G2 53 a) (G2 53 b) := by
          rcases r3 with r3 | r3
          · exact r3.2
          · omega
        refine ⟨fun q => ⟨Or.inl rfl, tf_pi ⟨((mq.th.trans f2).trans q3).trans q4, Or.inl ⟨⟨ha, hb⟩, by rw [g4 0 (by decide), g3 0 (by decide), t2, tf_up_at], m2.A (Or.inr ⟨rfl, fun g => ?_⟩)⟩⟩⟩, fun q => ⟨Or.inr rfl, tf_pi ⟨((mq.th.trans f2).trans q3).trans q4, Or.inl ⟨⟨ha, hb⟩, by rw [g4 0 (by decide), g3 0 (by decide), t2, tf_up_at], m2.A (Or.inl ⟨rfl, r31, ?_⟩)⟩⟩⟩⟩
        · rcases r4 with r4 | r4
          · omega
          · exact r4.2 g.2
        · rcases r4 with r4 | r4
          · exact r4.2
          · omega
    · omega
  · rcases h1 with h1 | ⟨_, h1, e⟩
    · omega
    · subst e
      exact ⟨Or.inl rfl, tf_pi ⟨mq.th, Or.inr ⟨h1, by rw [tf_up_at]⟩⟩⟩
theorem sp_119 (h : MV n hd ch m G) {a b what : Int} : tf_RUN l 119 [tf_r 42, tf_i a, tf_i b, tf_i what] G (tf_PI (mQ n hd ch (mf_E (G 46) (G 47) m) G ((mf_dom n a ∧ mf_dom n b) ∧ (what = 0 ∨ what = 1)) (Qcom a b what))) := by
  have en := h.1.1
  have n3 := h.2.1.2
  have bad : ¬ ((mf_dom n a ∧ mf_dom n b) ∧ (what = 0 ∨ what = 1)) → ∀ (K : Int → tf_Sto → Prop), (∀ G', G' = tf_up G 42 0 1 → ∀ r : Int, r ≠ 0 → K r G') → (tf_RUN l 79 [tf_r 42, tf_i 1, tf_i 0] G (fun o4 G5 => ∃ r6 : Int, o4 = .inl (some (tf_i r6)) ∧ K r6 G5)) := by
    intro _ K hK
    exact tf_ri sp_79_1 fun r G' h' => hK G' h'.2 r (by omega)
  have badp : ¬ ((mf_dom n a ∧ mf_dom n b) ∧ (what = 0 ∨ what = 1)) → ∀ G', G' = tf_up G 42 0 1 → tf_PI (mQ n hd ch (mf_E (G 46) (G 47) m) G ((mf_dom n a ∧ mf_dom n b) ∧ (what = 0 ∨ what = 1)) (Qcom a b what)) (.inl (some (tf_i 0))) G' := by
    intro hn G' e
    subst e
    exact tf_pi ⟨mq.th, Or.inr ⟨hn, tf_up_at⟩⟩
  refine vc_119 (tf_ri sp_80 fun r G1 h1 => ?_)
  obtain ⟨e1, h1⟩ := h1
  subst e1
  rw [en] at h1
  refine ⟨fun q => ?_, fun q => ?_⟩
  · have hn : ¬ ((mf_dom n a ∧ mf_dom n b) ∧ (what = 0 ∨ what = 1)) := by
      rcases h1 with h1 | h1
      · omega
      · exact fun g => h1.2 g.1.1
    exact bad hn _ fun G' e r hr => ⟨fun q => absurd q hr, fun _ => badp hn G' e⟩
  · have ha : mf_dom n a := by
      rcases h1 with h1 | h1
      · exact h1.2
      · omega
    refine tf_ri sp_80 fun r G1 h1 => ?_
    obtain ⟨e1, h1⟩ := h1
    subst e1
    rw [en] at h1
    refine ⟨fun q => ?_, fun q => ?_⟩
    · have hn : ¬ ((mf_dom n a ∧ mf_dom n b) ∧ (what = 0 ∨ what = 1)) := by
        rcases h1 with h1 | h1
        · omega
        · exact fun g => h1.2 g.1.2
      exact bad hn _ fun G' e r hr => ⟨fun q => absurd q hr, fun _ => badp hn G' e⟩
    · have hb : mf_dom n b := by
        rcases h1 with h1 | h1
        · exact h1.2
        · omega
      refine ⟨fun q1 => ?_, fun q1 => ⟨fun q2 => ?_, fun q2 => ?_⟩⟩
      · have hn : ¬ ((mf_dom n a ∧ mf_dom n b) ∧ (what = 0 ∨ what = 1)) := fun g => by have := g.2; omega
        exact bad hn _ fun G' e r hr => ⟨fun q => absurd q hr, fun _ => badp hn G' e⟩
      · refine tf_ri sp_79_0 fun r G1 h1 => ⟨fun _ => ?_, fun q => absurd h1.1 q⟩
        obtain ⟨_, e⟩ := h1
        subst e
        refine tf_rv (sp_96' (h.q mq.th)) fun G2 h2 => ?_
        obtain ⟨f2, t2, m2⟩ := h2
        rw [mq.th.eqs] at m2
        have ba : 0 ≤ a ∧ a < 300 := ⟨ha.1, by have := ha.2; omega⟩
        have bb : 0 ≤ b ∧ b < 300 := ⟨hb.1, by have := hb.2; omega⟩
        refine ⟨ba, bb, ?_⟩
        have xa := m2.2.2.1.1.1 a ha
        have xb := m2.2.2.1.1.1 b hb
        have ca := m2.tc.b xa
        have cb := m2.tc.b xb
        refine tf_rv (sp_114 (c := G2 42 18) rfl m2.tc.2.2.1 ca cb) fun G3 h3 => ?_
        obtain ⟨f3, g3, p1, p2, p3, p4⟩ := h3
        have hp0 : 0 ≤ 300 * G2 53 a + G2 53 b ∧ 300 * G2 53 a + G2 53 b < 90000 := ⟨by omega, by omega⟩
        have hq1 : (300 * G2 53 a + G2 53 b) / 300 = G2 53 a := by omega
        have hq2 : (300 * G2 53 a + G2 53 b) % 300 = G2 53 b := by omega
        have hN : mN G3 = 1 := mN_one hp0.1 hp0.2 p1
        have hin : ∀ q, 0 ≤ q → q < 90000 → mMet G3 q → mIn G3 q := by
          intro q q0 q1' hq
          have := (p1 q q0 q1').1 hq
          exact ⟨0, by decide, by omega, by rw [p3, this]⟩
        have hL : mL (mH hd G2) G3 = 0 := by
          refine mf_cnt_none ?_
          intro q q0 q1' hq
          rw [mK_int] at q1'
          exact hq.2.2 (hin q q0 q1' hq.1)
        have hpp : tpr (G2 42 18) (mH hd G2) (mB ch G2) (G2 53 a) (G2 53 b) (G2 53 a) (G2 53 b) := fun P p _ => p
        refine sp_119b m2.tc xa xb ?_ (1 + 2 * 89999) G3 0 0 ⟨f3, g3, by omega, ?_, ?_, ?_, ?_⟩ (by omega) (by omega) hL.symm (by rw [p2, hN]; omega) (fun q q0 q1' hq => Or.inl (hin q q0 q1' hq))
        · intro G4 f4 g4
          have q4 : mq G2 G4 := ⟨fun k k1 k2 _ _ _ => f4 k k1 (by omega) (by omega) (by omega), fun j _ _ _ j1 _ => g4 j j1⟩
          exact tf_pi ⟨(mq.th.trans f2).trans q4, Or.inl ⟨⟨⟨ha, hb⟩, by omega⟩, by rw [g4 0 (by decide), t2, tf_up_at], m2.A rfl⟩⟩
        · intro q q0 q1' hq
          have := (p1 q q0 q1').1 hq
          rw [this, hq1, hq2]
          exact ⟨xa, xb, hpp⟩
        · intro j j0 j1
          have j00 : j = 0 := by omega
          subst j00
          rw [p3]
          exact ⟨hp0, (p1 _ hp0.1 hp0.2).2 rfl⟩
        · intro i j i0 i1 j0 j1 _
          omega
        · exact (p1 _ hp0.1 hp0.2).2 rfl
      · have hn : ¬ ((mf_dom n a ∧ mf_dom n b) ∧ (what = 0 ∨ what = 1)) := fun g => by have := g.2; omega
        exact bad hn _ fun G' e r hr => ⟨fun q => absurd q hr, fun _ => badp hn G' e⟩
end
