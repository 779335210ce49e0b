section
variable {l : Launch} {G : tf_Sto} {n : Int} {hd : Int → Int} {ch : Int → Int → Int} {m : Nat} {E : List (Int × Int)}
theorem sp_78 : tf_RUN l 78 [tf_r 42] G (tf_PI fun r G' => r = G 42 0 ∧ G' = G) := vc_78 (tf_pi ⟨rfl, rfl⟩)
theorem sp_79_1 {v : Int} : tf_RUN l 79 [tf_r 42, tf_i 1, tf_i v] G (tf_PI fun r G' => r = 1 ∧ G' = tf_up G 42 0 1) :=
  vc_79 ⟨fun q => by omega, fun _ => ⟨fun q => by omega, fun _ => ⟨Or.inr rfl, tf_pi ⟨rfl, rfl⟩⟩⟩⟩
theorem sp_79_0 : tf_RUN l 79 [tf_r 42, tf_i 0, tf_i 0] G (tf_PI fun r G' => r = 0 ∧ G' = tf_up G 42 0 0) :=
  vc_79 ⟨fun _ => ⟨fun _ => ⟨fun _ => ⟨Or.inl rfl, tf_pi ⟨rfl, rfl⟩⟩, fun q => by omega⟩, fun q => absurd rfl q⟩, fun q => absurd rfl q⟩
theorem sp_79_2 : tf_RUN l 79 [tf_r 42, tf_i 0, tf_i 1] G (tf_PI fun r G' => r = 1 ∧ G' = tf_up G 42 0 2) :=
  vc_79 ⟨fun _ => ⟨fun q => by omega, fun _ => ⟨fun q => by omega, fun _ => ⟨Or.inr rfl, tf_pi ⟨rfl, rfl⟩⟩⟩⟩, fun q => absurd rfl q⟩
theorem sp_80 {t : Int} : tf_RUN l 80 [tf_r 42, tf_i t] G (tf_PI fun r G' => G' = G ∧ ((r = 1 ∧ mf_dom (G 42 1) t) ∨ (r = 0 ∧ ¬ mf_dom (G 42 1) t))) :=
  vc_80 ⟨fun q => ⟨Or.inl rfl, tf_pi ⟨rfl, Or.inr ⟨rfl, fun q1 => by have := q1.1; omega⟩⟩⟩, fun q => ⟨fun q1 => ⟨Or.inl rfl, tf_pi ⟨rfl, Or.inr ⟨rfl, fun q2 => by have := q2.2; omega⟩⟩⟩, fun q1 => ⟨Or.inr rfl, tf_pi ⟨rfl, Or.inl ⟨rfl, q, q1⟩⟩⟩⟩⟩
theorem sp_81 {a b : Int} : tf_RUN l 81 [tf_r 42, tf_i a, tf_i b] G (tf_PI fun r G' => (r = 0 ∧ (mf_dom (G 42 1) a ∧ mf_dom (G 42 1) b) ∧ G' = tf_up G 42 0 0) ∨ (r = 1 ∧ ¬ (mf_dom (G 42 1) a ∧ mf_dom (G 42 1) b) ∧ G' = tf_up G 42 0 1)) := by
  refine vc_81 (tf_ri sp_80 fun r G1 h1 => ?_)
  obtain ⟨e1, h1⟩ := h1
  subst e1
  refine ⟨fun q => ?_, fun q => ?_⟩
  · rcases h1 with h1 | h1
    · omega
    · exact tf_ri sp_79_1 fun r G2 h2 => ⟨Or.inr h2.1, tf_pi (Or.inr ⟨h2.1, fun q => h1.2 q.1, h2.2⟩)⟩
  · rcases h1 with h1 | h1
    · refine tf_ri sp_80 fun r G2 h2 => ?_
      obtain ⟨e2, h2⟩ := h2
      subst e2
      refine ⟨fun q => ?_, fun q => ?_⟩
      · rcases h2 with h2 | h2
        · exact tf_ri sp_79_0 fun r G3 h3 => ⟨Or.inl h3.1, tf_pi (Or.inl ⟨h3.1, ⟨h1.2, h2.2⟩, h3.2⟩)⟩
        · omega
      · rcases h2 with h2 | h2
        · omega
        · exact tf_ri sp_79_1 fun r G3 h3 => ⟨Or.inr h3.1, tf_pi (Or.inr ⟨h3.1, fun q => h2.2 q.2, h3.2⟩)⟩
    · omega
/-- what the reference's asking needs -/
def MV (n : Int) (hd : Int → Int) (ch : Int → Int → Int) (m : Nat) (G : tf_Sto) : Prop := mv n hd ch G ∧ (0 ≤ n ∧ n ≤ 300) ∧ mf_wf n hd ch ∧ G 42 5 = m ∧ m ≤ 4999 ∧ (∀ q ∈ mf_E (G 46) (G 47) m, mf_dom n q.1 ∧ mf_dom n q.2) ∧ mf_con n hd ch (mf_E (G 46) (G 47) m)
/-- what the reference's asking keeps -/
def mq (G G' : tf_Sto) : Prop := (∀ k : Nat, k ≠ 42 → (k < 50 ∨ 62 < k) → k ≠ 64 → k ≠ 65 → k ≠ 66 → G' k = G k) ∧ ∀ j : Int, j ≠ 0 → j ≠ 14 → j ≠ 18 → j ≠ 26 → j ≠ 30 → G' 42 j = G 42 j
theorem mq.trans {G G' G'' : tf_Sto} (h : mq G G') (h' : mq G' G'') : mq G G'' := ⟨fun k k1 k2 k3 k4 k5 => (h'.1 k k1 k2 k3 k4 k5).trans (h.1 k k1 k2 k3 k4 k5), fun j j1 j2 j3 j4 j5 => (h'.2 j j1 j2 j3 j4 j5).trans (h.2 j j1 j2 j3 j4 j5)⟩
theorem mq.th {v : Int} : mq G (tf_up G 42 0 v) := ⟨fun k k1 _ _ _ _ => tf_upo k1, fun j j1 _ _ _ _ => by rw [tf_up_eq, if_neg j1]⟩
theorem mgf.q {G' : tf_Sto} (h : mgf G G') : mq G G' := ⟨fun k k1 k2 _ _ _ => h.1 k k1 (by omega), fun j _ j1 j2 _ _ => h.2 j j1 j2⟩
theorem MV.q {G' : tf_Sto} (h : MV n hd ch m G) (hq : mq G G') : MV n hd ch m G' := by
  obtain ⟨h1, h2, h3, h4, h5, h6, h7⟩ := h
  have e46 := hq.1 46 (by decide) (by decide) (by decide) (by decide) (by decide)
  have e47 := hq.1 47 (by decide) (by decide) (by decide) (by decide) (by decide)
  refine ⟨h1.fr (hq.2 1 (by decide) (by decide) (by decide) (by decide) (by decide)) (hq.1 43 (by decide) (by decide) (by decide) (by decide) (by decide)) (hq.1 44 (by decide) (by decide) (by decide) (by decide) (by decide)) (hq.1 45 (by decide) (by decide) (by decide) (by decide) (by decide)), h2, h3, by rw [hq.2 5 (by decide) (by decide) (by decide) (by decide) (by decide), h4], h5, ?_, ?_⟩
  · rw [e46, e47]; exact h6
  · rw [e46, e47]; exact h7
theorem mq.eqs {G' : tf_Sto} (hq : mq G G') : mf_E (G' 46) (G' 47) m = mf_E (G 46) (G 47) m := by
  rw [hq.1 46 (by decide) (by decide) (by decide) (by decide) (by decide), hq.1 47 (by decide) (by decide) (by decide) (by decide) (by decide)]
theorem sp_96' (h : MV n hd ch m G) : tf_RUN l 96 [tf_r 42] G (tf_PV fun G' => mq G G' ∧ G' 42 0 = G 42 0 ∧ mt n hd ch (mf_E (G 46) (G 47) m) G') := by
  obtain ⟨h1, h2, h3, h4, h5, h6, h7⟩ := h
  exact tf_rv (sp_96 h1 h2 h3 h4 h5 h6 h7) fun G' h' => ⟨h'.1.q, h'.1.2 0 (by decide) (by decide), h'.2⟩
/-- an answer of the reference -/
def mQ (n : Int) (hd : Int → Int) (ch : Int → Int → Int) (E : List (Int × Int)) (G : tf_Sto) (ok : Prop) (Q : Int → Int → (Int → Int) → (Int → Int → Int) → (Int → Int) → Prop) (r : Int) (G' : tf_Sto) : Prop := mq G G' ∧ ((ok ∧ G' 42 0 = 0 ∧ tA n hd ch E (Q r)) ∨ (¬ ok ∧ G' 42 0 = 1))
theorem mt.A (hm : mt n hd ch E G) {Q : Int → (Int → Int) → (Int → Int → Int) → (Int → Int) → Prop} (hq : Q (G 42 18) (mH hd G) (mB ch G) (G 53)) : tA n hd ch E Q := ⟨_, _, _, _, hm.tc.2.2.1.2, hm.sys, hq⟩
abbrev Qsame (a d r c : Int) (h : Int → Int) (b : Int → Int → Int) (f : Int → Int) : Prop := r = if f a = f d then 1 else 0
theorem sp_105 (h : MV n hd ch m G) {a b : Int} : tf_RUN l 105 [tf_r 42, tf_i a, tf_i b] G (tf_PI (mQ n hd ch (mf_E (G 46) (G 47) m) G (mf_dom n a ∧ mf_dom n b) (Qsame a b))) := by
  have en := h.1.1
  refine vc_105 (tf_ri sp_81 fun r G1 h1 => ?_)
  rw [en] at h1
  refine ⟨fun q => ?_, fun q => ?_⟩
  · rcases h1 with ⟨_, ⟨ha, hb⟩, e⟩ | h1
    · subst e
      refine tf_rv (sp_96' (h.q mq.th)) fun G2 h2 => ?_
      obtain ⟨f2, t2, m2⟩ := h2
      rw [mq.th.eqs] at m2
      have n3 := h.2.1.2
      refine ⟨⟨ha.1, by have := ha.2; omega⟩, ⟨hb.1, by have := hb.2; omega⟩, fun q => ⟨Or.inl rfl, tf_pi ⟨mq.th.trans f2, Or.inl ⟨⟨ha, hb⟩, by rw [t2, tf_up_at], m2.A ?_⟩⟩⟩, fun q => ⟨Or.inr rfl, tf_pi ⟨mq.th.trans f2, Or.inl ⟨⟨ha, hb⟩, by rw [t2, tf_up_at], m2.A ?_⟩⟩⟩⟩
      · unfold Qsame; rw [if_neg q]
      · unfold Qsame; rw [if_pos q]
    · omega
  · rcases h1 with h1 | ⟨_, h1, e⟩
    · omega
    · subst e
      exact ⟨Or.inl rfl, tf_pi ⟨mq.th, Or.inr ⟨h1, by rw [tf_up_at]⟩⟩⟩
theorem sp_106 (h : MV n hd ch m G) {a : Int} : tf_RUN l 106 [tf_r 42, tf_i a] G (tf_PI fun r G' => mq G G' ∧ ((r = 1 ∧ mf_dom n a ∧ G' 42 0 = 0 ∧ mt n hd ch (mf_E (G 46) (G 47) m) G' ∧ mz (G' 42 18) (mH hd G') (mB ch G') G') ∨ (r = 0 ∧ ¬ mf_dom n a ∧ G' 42 0 = 1))) := by
  have en := h.1.1
  refine vc_106 (tf_ri sp_81 fun r G1 h1 => ?_)
  rw [en] at h1
  refine ⟨fun q => ?_, fun q => ?_⟩
  · rcases h1 with ⟨_, ⟨ha, hb⟩, e⟩ | h1
    · subst e
      refine tf_rv (sp_96' (h.q mq.th)) fun G2 h2 => ?_
      obtain ⟨f2, t2, m2⟩ := h2
      rw [mq.th.eqs] at m2
      refine tf_rv (sp_103 m2.tc) fun G3 h3 => ⟨Or.inr rfl, tf_pi ?_⟩
      obtain ⟨f3, z3⟩ := h3
      have k3 : mkp G2 G3 := ⟨fun k k1 k2 => f3 k (by omega) (by omega) (by omega), fun j _ _ => by rw [f3 42 (by decide) (by decide) (by decide)]⟩
      have e42 : G3 42 = G2 42 := f3 42 (by decide) (by decide) (by decide)
      have q3 : mq G2 G3 := ⟨fun k _ k2 _ _ _ => f3 k (by omega) (by omega) (by omega), fun j _ _ _ _ _ => by rw [e42]⟩
      refine ⟨(mq.th.trans f2).trans q3, Or.inl ⟨rfl, ha, by rw [e42, t2, tf_up_at], ?_, ?_⟩⟩
      · obtain ⟨m21, m22, m23, m24, m25⟩ := m2
        refine ⟨m21.fr (by rw [e42]) (k3.1 43 (by decide) (by decide)) (k3.1 44 (by decide) (by decide)) (k3.1 45 (by decide) (by decide)) (k3.1 50 (by decide) (by decide)) (k3.1 51 (by decide) (by decide)), ?_, ?_, ?_, ?_⟩
        · rw [k3.1 50 (by decide) (by decide), k3.1 51 (by decide) (by decide)]; exact m22
        · rw [e42, k3.1 53 (by decide) (by decide)]; exact m23
        · rw [e42]; exact m24
        · rw [e42, k3.1 53 (by decide) (by decide), k3.1 55 (by decide) (by decide)]; exact m25
      · rw [e42, k3.H, k3.B]
        exact z3
    · omega
  · rcases h1 with h1 | ⟨_, h1, e⟩
    · omega
    · subst e
      exact ⟨Or.inl rfl, tf_pi ⟨mq.th, Or.inr ⟨rfl, fun q => h1 ⟨q, q⟩, by rw [tf_up_at]⟩⟩⟩
abbrev Qfin (a r c : Int) (h : Int → Int) (b : Int → Int → Int) (f : Int → Int) : Prop := (r = 1 ∧ tfin c h b (f a)) ∨ (r = 0 ∧ ¬ tfin c h b (f a))
abbrev Qsize (a r c : Int) (h : Int → Int) (b : Int → Int → Int) (f : Int → Int) : Prop := ∃ sz dp, tmeas c h b sz dp ∧ ((tfin c h b (f a) ∧ r = sz (f a)) ∨ (¬ tfin c h b (f a) ∧ r = -1))
abbrev Qdepth (a r c : Int) (h : Int → Int) (b : Int → Int → Int) (f : Int → Int) : Prop := ∃ sz dp, tmeas c h b sz dp ∧ ((tfin c h b (f a) ∧ r = dp (f a)) ∨ (¬ tfin c h b (f a) ∧ r = -1))
theorem mz.meas {c : Int} {h : Int → Int} {b : Int → Int → Int} (hz : mz c h b G) : tmeas c h b (G 58) (G 59) := fun x hx hf => (hz x hx).2 ((hz x hx).1.2 hf)
theorem sp_107 (h : MV n hd ch m G) {a : Int} : tf_RUN l 107 [tf_r 42, tf_i a] G (tf_PI (mQ n hd ch (mf_E (G 46) (G 47) m) G (mf_dom n a) (Qfin a))) := by
  have n3 := h.2.1.2
  refine vc_107 (tf_ri (sp_106 h) fun r G1 h1 => ?_)
  obtain ⟨f1, h1⟩ := h1
  refine ⟨fun q => ?_, fun q => ?_⟩
  · rcases h1 with h1 | ⟨_, h1, h2⟩
    · omega
    · exact ⟨Or.inl rfl, tf_pi ⟨f1, Or.inr ⟨h1, h2⟩⟩⟩
  · rcases h1 with ⟨_, ha, t1, m1, z1⟩ | h1
    · have hd1 := m1.2.2.1.1.1 a ha
      have hz := z1 _ hd1
      have hb := m1.tc.b hd1
      refine ⟨⟨ha.1, by have := ha.2; omega⟩, hb, fun q => ⟨Or.inl rfl, tf_pi ⟨f1, Or.inl ⟨ha, t1, m1.A (Or.inr ⟨rfl, fun g => hz.1.2 g q⟩)⟩⟩⟩, fun q => ⟨Or.inr rfl, tf_pi ⟨f1, Or.inl ⟨ha, t1, m1.A (Or.inl ⟨rfl, hz.1.1 q⟩)⟩⟩⟩⟩
    · omega
theorem sp_108 (h : MV n hd ch m G) {a : Int} : tf_RUN l 108 [tf_r 42, tf_i a] G (tf_PL (mQ n hd ch (mf_E (G 46) (G 47) m) G (mf_dom n a) (Qsize a))) := by
  have n3 := h.2.1.2
  refine vc_108 (tf_ri (sp_106 h) fun r G1 h1 => ?_)
  obtain ⟨f1, h1⟩ := h1
  refine ⟨fun q => ?_, fun q => ?_⟩
  · rcases h1 with ⟨_, ha, t1, m1, z1⟩ | h1
    · have hd1 := m1.2.2.1.1.1 a ha
      have hz := z1 _ hd1
      have hb := m1.tc.b hd1
      have hab : 0 ≤ a ∧ a < 300 := ⟨ha.1, by have := ha.2; omega⟩
      refine ⟨hab, hb, fun q => tf_pl ⟨f1, Or.inl ⟨ha, t1, m1.A ⟨_, _, z1.meas, Or.inr ⟨fun g => hz.1.2 g q, rfl⟩⟩⟩⟩, fun q => ⟨hab, hb, tf_pl ⟨f1, Or.inl ⟨ha, t1, m1.A ⟨_, _, z1.meas, Or.inl ⟨hz.1.1 q, rfl⟩⟩⟩⟩⟩⟩
    · omega
  · rcases h1 with h1 | ⟨_, h1, h2⟩
    · omega
    · exact tf_pl ⟨f1, Or.inr ⟨h1, h2⟩⟩
theorem sp_109 (h : MV n hd ch m G) {a : Int} : tf_RUN l 109 [tf_r 42, tf_i a] G (tf_PI (mQ n hd ch (mf_E (G 46) (G 47) m) G (mf_dom n a) (Qdepth a))) := by
  have n3 := h.2.1.2
  refine vc_109 (tf_ri (sp_106 h) fun r G1 h1 => ?_)
  obtain ⟨f1, h1⟩ := h1
  refine ⟨fun q => ?_, fun q => ?_⟩
  · rcases h1 with ⟨_, ha, t1, m1, z1⟩ | h1
    · have hd1 := m1.2.2.1.1.1 a ha
      have hz := z1 _ hd1
      have hb := m1.tc.b hd1
      have hab : 0 ≤ a ∧ a < 300 := ⟨ha.1, by have := ha.2; omega⟩
      refine ⟨hab, hb, fun q => tf_pi ⟨f1, Or.inl ⟨ha, t1, m1.A ⟨_, _, z1.meas, Or.inr ⟨fun g => hz.1.2 g q, rfl⟩⟩⟩⟩, fun q => ⟨hab, hb, tf_pi ⟨f1, Or.inl ⟨ha, t1, m1.A ⟨_, _, z1.meas, Or.inl ⟨hz.1.1 q, rfl⟩⟩⟩⟩⟩⟩
    · omega
  · rcases h1 with h1 | ⟨_, h1, h2⟩
    · omega
    · exact tf_pi ⟨f1, Or.inr ⟨h1, h2⟩⟩
abbrev Qwith (lv a r c : Int) (h : Int → Int) (b : Int → Int → Int) (f : Int → Int) : Prop := r = mf_cnt (fun y => treach c h b (f a) y ∧ (lv = 0 ∨ h y = -1)) c.toNat
theorem sp_110' {lv a : Int} {E : List (Int × Int)} {G1 : tf_Sto} (hn : n ≤ 300) (f1 : mq G G1) (ha : mf_dom n a) (t1 : G1 42 0 = 0) (m1 : mt n hd ch E G1) : tf_RUN l 110 [tf_r 42, tf_i (G1 53 a), tf_i lv] G1 (tf_PI (mQ n hd ch E G (mf_dom n a) (Qwith lv a))) := by
  have hd1 := m1.2.2.1.1.1 a ha
  refine tf_ri (sp_110 m1.tc hd1) fun r G2 h2 => ?_
  have e42 : G2 42 = G1 42 := h2.1 42 (by decide)
  refine ⟨f1.trans ⟨fun k _ k2 _ _ _ => h2.1 k (by omega), fun j _ _ _ _ _ => by rw [e42]⟩, Or.inl ⟨ha, by rw [e42, t1], m1.A ?_⟩⟩
  exact h2.2
theorem sp_111 (h : MV n hd ch m G) {a : Int} : tf_RUN l 111 [tf_r 42, tf_i a] G (tf_PI (mQ n hd ch (mf_E (G 46) (G 47) m) G (mf_dom n a) (Qwith 1 a))) := by
  have n3 := h.2.1.2
  refine vc_111 (tf_ri (sp_106 h) fun r G1 h1 => ?_)
  obtain ⟨f1, h1⟩ := h1
  refine ⟨fun q => ?_, fun q => ?_⟩
  · rcases h1 with h1 | ⟨_, h1, h2⟩
    · omega
    · exact tf_pi ⟨f1, Or.inr ⟨h1, h2⟩⟩
  · rcases h1 with ⟨_, ha, t1, m1, z1⟩ | h1
    · exact ⟨⟨ha.1, by have := ha.2; omega⟩, tf_ri (sp_110' n3 f1 ha t1 m1) fun r G2 h2 => tf_pi h2⟩
    · omega
theorem sp_112 (h : MV n hd ch m G) {a : Int} : tf_RUN l 112 [tf_r 42, tf_i a] G (tf_PI (mQ n hd ch (mf_E (G 46) (G 47) m) G (mf_dom n a) (Qwith 0 a))) := by
  have n3 := h.2.1.2
  refine vc_112 (tf_ri (sp_106 h) fun r G1 h1 => ?_)
  obtain ⟨f1, h1⟩ := h1
  refine ⟨fun q => ?_, fun q => ?_⟩
  · rcases h1 with h1 | ⟨_, h1, h2⟩
    · omega
    · exact tf_pi ⟨f1, Or.inr ⟨h1, h2⟩⟩
  · rcases h1 with ⟨_, ha, t1, m1, z1⟩ | h1
    · exact ⟨⟨ha.1, by have := ha.2; omega⟩, tf_ri (sp_110' n3 f1 ha t1 m1) fun r G2 h2 => tf_pi h2⟩
    · omega
end
