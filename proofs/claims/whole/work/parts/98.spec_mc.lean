abbrev Qtext (n a : Int) (D D' : List Int) (r c : Int) (h : Int → Int) (b : Int → Int → Int) (f : Int → Int) : Prop := (¬ tfin c h b (f a) ∧ r = -1 ∧ D' = D) ∨
  (tfin c h b (f a) ∧ ∃ (lst : Int → Int) (d : Nat), (∀ x, mf_dom c x → h x = -1 → tlst n f x (lst x)) ∧ tok h b d (f a) ∧
    ((200 < (tS h lst b d (f a)).length ∧ r = -1 ∧ D' = D) ∨ ((tS h lst b d (f a)).length ≤ 200 ∧ r = ((tS h lst b d (f a)).length : Int) ∧ D' = tS h lst b d (f a))))
/-- a number of bytes, the last first -/
def off (e : Int → Int) (j : Nat) (acc : Int) : Int := match j with
  | 0 => acc
  | j + 1 => off e j (tf_lor (tf_lshl acc 8) (e (j : Int)))
theorem off_congr {e e' : Int → Int} {j : Nat} : ∀ {acc : Int}, (∀ i : Int, 0 ≤ i → i < j → e i = e' i) → off e j acc = off e' j acc := by
  induction j with
  | zero => intro acc _; rfl
  | succ j ih =>
    intro acc he
    simp only [off]
    rw [he (j : Int) (by omega) (by omega)]
    exact ih fun i i0 i1 => he i i0 (by omega)
section
variable {l : Launch} {G : tf_Sto} {n : Int} {hd : Int → Int} {ch : Int → Int → Int} {m : Nat} {E : List (Int × Int)}
theorem mwg.q {G' : tf_Sto} (h : mwg G G') : mq G G' := ⟨fun k k1 _ k3 k4 k5 => h.1 k k1 k3 k4 k5, fun j _ _ _ _ j1 => h.2 j j1⟩
theorem sp_125b {G5 : tf_Sto} {v : Int} (hv : G5 42 30 = v) (h0 : 0 ≤ v ∧ v ≤ 200) : ∀ (d : Nat) (k : Int) (G1 : tf_Sto), 0 ≤ k → k + d = v → (∀ i : Nat, i ≠ 63 → G1 i = G5 i) → (∀ j, 0 ≤ j → j < k → G1 63 j = G5 64 j) →
    tf_AW l 125 none (tf_PI fun r G' => r = v ∧ (∀ i : Nat, i ≠ 63 → i ≠ 42 → G' i = G5 i) ∧ (∀ j, j ≠ 28 → G' 42 j = G5 42 j) ∧ G' 42 28 = v ∧ ∀ j, 0 ≤ j → j < v → G' 63 j = G5 64 j) 50 [(0, tf_r 42), (2, tf_i k)] [] (none, false) G1 := by
  intro d
  induction d with
  | zero =>
    intro k G1 k0 ke hf hj
    have e42 : G1 42 = G5 42 := hf 42 (by decide)
    refine vc_125_50 ⟨fun q => tf_pi ⟨by rw [e42, hv], fun i i1 i2 => by rw [tf_upo i2, hf i i1], fun j j1 => by rw [tf_up_eq, if_neg j1, e42], by rw [tf_up_at, e42, hv], fun j j0 j1 => by rw [tf_upo' (by decide)]; exact hj j j0 (by omega)⟩, fun q => ?_⟩
    rw [e42, hv] at q
    omega
  | succ d ih =>
    intro k G1 k0 ke hf hj
    have e42 : G1 42 = G5 42 := hf 42 (by decide)
    refine vc_125_50 ⟨fun q => ?_, fun q => ?_⟩
    · rw [e42, hv] at q
      omega
    · refine ⟨⟨k0, by omega⟩, ⟨k0, by omega⟩, ⟨by omega, by omega⟩, ih (k + 1) _ (by omega) (by omega) (fun i i1 => by rw [tf_upo i1, hf i i1]) ?_⟩
      intro j j0 j1
      rw [tf_up_eq]
      by_cases g : j = k
      · rw [if_pos g, g, hf 64 (by decide)]
      · rw [if_neg g]
        exact hj j j0 (by omega)
/-- what the reference's text keeps -/
def mqt (G G' : tf_Sto) : Prop := (∀ k : Nat, k ≠ 42 → (k < 50 ∨ 66 < k) → G' k = G k) ∧ ∀ j : Int, j ≠ 0 → j ≠ 14 → j ≠ 18 → j ≠ 26 → j ≠ 30 → j ≠ 28 → G' 42 j = G 42 j
theorem mq.t {G' : tf_Sto} (h : mq G G') : mqt G G' := ⟨fun k k1 k2 => h.1 k k1 (by omega) (by omega) (by omega) (by omega), fun j j1 j2 j3 j4 j5 _ => h.2 j j1 j2 j3 j4 j5⟩
theorem sp_125 (h : MV n hd ch m G) {a : Int} {D : List Int} (h28 : G 42 28 = (D.length : Int)) (h63 : wr (G 63) D) : tf_RUN l 125 [tf_r 42, tf_i a] G (tf_PI fun r G' => mqt G G' ∧ ∃ D' : List Int, G' 42 28 = (D'.length : Int) ∧ wr (G' 63) D' ∧ ((mf_dom n a ∧ G' 42 0 = 0 ∧ tA n hd ch (mf_E (G 46) (G 47) m) (Qtext n a D D' r)) ∨ (¬ mf_dom n a ∧ G' 42 0 = 1 ∧ D' = D))) := by
  have n3 := h.2.1.2
  have keep : ∀ {G1 : tf_Sto}, mq G G1 → G1 42 28 = (D.length : Int) ∧ wr (G1 63) D := by
    intro G1 hq
    rw [hq.2 28 (by decide) (by decide) (by decide) (by decide) (by decide), hq.1 63 (by decide) (by decide) (by decide) (by decide) (by decide)]
    exact ⟨h28, h63⟩
  refine vc_125 (tf_ri (sp_106 h) fun r G1 h1 => ?_)
  obtain ⟨f1, h1⟩ := h1
  refine ⟨fun q => ?_, fun q => ?_⟩
  · rcases h1 with ⟨_, ha, t1, m1, z1⟩ | h1
    · have hd1 := m1.2.2.1.1.1 a ha
      have hz := z1 _ hd1
      have hb := m1.tc.b hd1
      have hab : 0 ≤ a ∧ a < 300 := ⟨ha.1, by have := ha.2; omega⟩
      refine ⟨hab, hb, fun q => ⟨hab, ?_⟩, fun q => tf_pi ⟨f1.t, D, (keep f1).1, (keep f1).2, Or.inl ⟨ha, t1, m1.A (Or.inl ⟨fun g => hz.1.2 g q, rfl, rfl⟩)⟩⟩⟩
      have hfin := hz.1.1 q
      obtain ⟨lst, hlo⟩ := m1.lo
      obtain ⟨d, hk⟩ := tok_ex hfin
      have hlst : ∀ x, mf_dom (G1 42 18) x → mH hd G1 x = -1 → tlst n (G1 53) x (lst x) := fun x hx hl => (hlo x hx hl).1
      refine tf_rv (sp_124 m1.tc hlo hd1 hk) fun G2 h2 => ?_
      obtain ⟨f2, h2⟩ := h2
      have q2 : mq G G2 := f1.trans f2.q
      have t2 : G2 42 0 = 0 := by rw [f2.2 0 (by decide), t1]
      refine ⟨fun q => ?_, fun q => ?_⟩
      · rcases h2 with ⟨a1, a2, a3⟩ | h2
        · refine (sp_125b (l := l) a1 ⟨by omega, by omega⟩ (tS (mH hd G1) lst (mB ch G1) d (G1 53 a)).length 0 G2 (by omega) (by omega) (fun _ _ => rfl) (fun j j0 j1 => by omega)).mono ?_
          rintro o G3 ⟨r, rfl, e1, e2, e3, e4, e5⟩
          refine ⟨r, rfl, ⟨fun k k1 k2 => ?_, fun j j1 j2 j3 j4 j5 j6 => ?_⟩, tS (mH hd G1) lst (mB ch G1) d (G1 53 a), e4, ?_, Or.inl ⟨ha, by rw [e3 0 (by decide), t2], m1.A (Or.inr ⟨hfin, lst, d, hlst, hk, Or.inr ⟨a2, e1, rfl⟩⟩)⟩⟩
          · rw [e2 k (by omega) k1]
            exact q2.t.1 k k1 k2
          · rw [e3 j j6]
            exact q2.t.2 j j1 j2 j3 j4 j5 j6
          · intro j j2 hj
            rw [e5 (j : Int) (by omega) (by omega)]
            exact a3 j j2 hj
        · omega
      · rcases h2 with ⟨a1, a2, a3⟩ | ⟨a1, a2⟩
        · omega
        · exact tf_pi ⟨q2.t, D, (keep q2).1, (keep q2).2, Or.inl ⟨ha, t2, m1.A (Or.inr ⟨hfin, lst, d, hlst, hk, Or.inl ⟨a2, rfl, rfl⟩⟩)⟩⟩
    · omega
  · rcases h1 with h1 | ⟨_, h1, h2⟩
    · omega
    · exact tf_pi ⟨f1.t, D, (keep f1).1, (keep f1).2, Or.inr ⟨h1, h2, rfl⟩⟩
theorem sp_126 {k : Int} (hs : 0 ≤ G 42 28 ∧ G 42 28 ≤ 200) : tf_RUN l 126 [tf_r 42, tf_i k] G (tf_PL fun r G' => ((0 ≤ k ∧ k < G 42 28) ∧ G' = tf_up G 42 0 0 ∧ r = off (fun i => if k + i < G 42 28 then G 63 (k + i) else 0) 8 0) ∨ (¬ (0 ≤ k ∧ k < G 42 28) ∧ G' = tf_up G 42 0 1)) := by
  refine vc_126 ⟨fun q => ?_, fun q => ⟨fun q1 => ?_, fun q1 => ?_⟩⟩
  · exact tf_ri sp_79_1 fun r G1 h1 => ⟨fun q => by omega, fun _ => tf_pl (Or.inr ⟨fun g => by omega, h1.2⟩)⟩
  · refine tf_ri sp_79_0 fun r G1 h1 => ⟨fun _ => ?_, fun q => absurd h1.1 q⟩
    obtain ⟨_, e⟩ := h1
    have e28 : G1 42 28 = G 42 28 := by rw [e, tf_up_eq, if_neg (by decide)]
    have e63 : G1 63 = G 63 := by rw [e, tf_upo (by decide)]
    have loop : ∀ (j : Nat) (acc v4 : Int), j ≤ 8 → v4 = (j : Int) - 1 → off (fun i => if k + i < G 42 28 then G 63 (k + i) else 0) 8 0 = off (fun i => if k + i < G 42 28 then G 63 (k + i) else 0) j acc →
        tf_AW l 126 none (tf_PL fun r G' => ((0 ≤ k ∧ k < G 42 28) ∧ G' = tf_up G 42 0 0 ∧ r = off (fun i => if k + i < G 42 28 then G 63 (k + i) else 0) 8 0) ∨ (¬ (0 ≤ k ∧ k < G 42 28) ∧ G' = tf_up G 42 0 1)) 33 [(0, tf_r 42), (1, tf_i k), (2, tf_l acc), (4, tf_i v4)] [] (none, false) G1 := by
      intro j
      induction j with
      | zero =>
        intro acc v4 _ e4 eo
        exact vc_126_33 ⟨fun _ => tf_pl (Or.inl ⟨⟨q, q1⟩, e, eo.symm⟩), fun q => by omega⟩
      | succ j ih =>
        intro acc v4 hj e4 eo
        have e4' : v4 = (j : Int) := by omega
        subst e4'
        refine vc_126_33 ⟨fun q => by omega, fun _ => ⟨⟨by omega, by omega⟩, fun g => ⟨⟨by omega, by omega⟩, ?_⟩, fun g => ⟨⟨by omega, by omega⟩, ⟨by omega, by omega⟩, ⟨by omega, by omega⟩, ?_⟩⟩⟩
        · refine ih _ _ (by omega) (by omega) ?_
          rw [eo]
          simp only [off]
          rw [if_neg (by omega)]
        · refine ih _ _ (by omega) (by omega) ?_
          rw [eo]
          simp only [off]
          rw [if_pos (by omega), e63]
    exact loop 8 0 7 (by omega) (by omega) rfl
  · exact tf_ri sp_79_1 fun r G1 h1 => ⟨fun q => by omega, fun _ => tf_pl (Or.inr ⟨fun g => by omega, h1.2⟩)⟩
abbrev Qcnt (r c : Int) (_ : Int → Int) (_ : Int → Int → Int) (_ : Int → Int) : Prop := r = c
theorem sp_127 (h : MV n hd ch m G) {w : Int} : tf_RUN l 127 [tf_r 42, tf_i w] G (tf_PI fun r G' => mq G G' ∧ (((0 ≤ w ∧ w ≤ 4) ∧ G' 42 0 = 0 ∧ (w = 0 → r = n) ∧ (w = 1 → r = m) ∧ (w = 2 → r = G 42 8) ∧ (w = 3 → tA n hd ch (mf_E (G 46) (G 47) m) (Qcnt r)) ∧ (w = 4 → r = G 42 28)) ∨ (¬ (0 ≤ w ∧ w ≤ 4) ∧ G' 42 0 = 1))) := by
  refine vc_127 ⟨fun q => ?_, fun q => ⟨fun q1 => ?_, fun q1 => ?_⟩⟩
  · refine tf_ri sp_79_1 fun r G1 h1 => ⟨fun q => by omega, fun _ => ?_⟩
    obtain ⟨_, e⟩ := h1
    subst e
    exact tf_pi ⟨mq.th, Or.inr ⟨fun g => by omega, tf_up_at⟩⟩
  · refine tf_ri sp_79_0 fun r G1 h1 => ⟨fun _ => ?_, fun q => absurd h1.1 q⟩
    obtain ⟨_, e⟩ := h1
    subst e
    have e1 : tf_up G 42 0 0 42 1 = n := by rw [tf_up_eq, if_neg (by decide)]; exact h.1.1
    have e5 : tf_up G 42 0 0 42 5 = m := by rw [tf_up_eq, if_neg (by decide)]; exact h.2.2.2.1
    have e8 : tf_up G 42 0 0 42 8 = G 42 8 := by rw [tf_up_eq, if_neg (by decide)]
    have e28 : tf_up G 42 0 0 42 28 = G 42 28 := by rw [tf_up_eq, if_neg (by decide)]
    refine ⟨fun g => ?_, fun g => ?_, fun g => ?_, fun g => ?_, fun g => ?_, trivial⟩
    · exact tf_pi ⟨mq.th, Or.inl ⟨⟨q, q1⟩, tf_up_at, fun g => by omega, fun g => by omega, fun g => by omega, fun g => by omega, fun _ => e28⟩⟩
    · exact tf_pi ⟨mq.th, Or.inl ⟨⟨q, q1⟩, tf_up_at, fun _ => e1, fun g => by omega, fun g => by omega, fun g => by omega, fun g => by omega⟩⟩
    · exact tf_pi ⟨mq.th, Or.inl ⟨⟨q, q1⟩, tf_up_at, fun g => by omega, fun _ => e5, fun g => by omega, fun g => by omega, fun g => by omega⟩⟩
    · exact tf_pi ⟨mq.th, Or.inl ⟨⟨q, q1⟩, tf_up_at, fun g => by omega, fun g => by omega, fun _ => e8, fun g => by omega, fun g => by omega⟩⟩
    · refine tf_rv (sp_96' (h.q mq.th)) fun G2 h2 => ?_
      obtain ⟨f2, t2, m2⟩ := h2
      rw [mq.th.eqs] at m2
      exact tf_pi ⟨mq.th.trans f2, Or.inl ⟨⟨q, q1⟩, by rw [t2, tf_up_at], fun g => by omega, fun g => by omega, fun g => by omega, fun _ => m2.A rfl, fun g => by omega⟩⟩
  · refine tf_ri sp_79_1 fun r G1 h1 => ⟨fun q => by omega, fun _ => ?_⟩
    obtain ⟨_, e⟩ := h1
    subst e
    exact tf_pi ⟨mq.th, Or.inr ⟨fun g => by omega, tf_up_at⟩⟩
theorem sp_82 (hn : 0 ≤ G 42 1 ∧ G 42 1 ≤ 300) : tf_RUN l 82 [tf_r 42] G (tf_PI fun r G' => (G 42 1 < 300 ∧ r = G 42 1 ∧ G' = tf_up (tf_up (tf_up (tf_up G 42 0 0) 43 (G 42 1) (-1)) 44 (G 42 1) 0) 42 1 (G 42 1 + 1)) ∨ (G 42 1 = 300 ∧ G' = tf_up G 42 0 1)) := by
  refine vc_82 ⟨fun q => ?_, fun q => ?_⟩
  · refine tf_ri sp_79_0 fun r G1 h1 => ⟨fun _ => ?_, fun q => absurd h1.1 q⟩
    obtain ⟨_, e⟩ := h1
    subst e
    have e1 : tf_up G 42 0 0 42 1 = G 42 1 := by rw [tf_up_eq, if_neg (by decide)]
    rw [e1]
    exact ⟨⟨by omega, by omega⟩, ⟨by omega, by omega⟩, ⟨by omega, by omega⟩, ⟨by omega, by omega⟩, tf_pi (Or.inl ⟨by omega, by omega, rfl⟩)⟩
  · exact tf_ri sp_79_1 fun r G1 h1 => ⟨fun q => by omega, fun _ => tf_pi (Or.inr ⟨q, h1.2⟩)⟩
def sok (n s k a b c : Int) : Prop := (0 ≤ s ∧ s < 16) ∧ (0 ≤ k ∧ k ≤ 3) ∧ (0 < k → mf_dom n a) ∧ (1 < k → mf_dom n b) ∧ (2 < k → mf_dom n c)
theorem sp_83 (hn : 0 ≤ G 42 1 ∧ G 42 1 ≤ 300) {s k a b c : Int} : tf_RUN l 83 [tf_r 42, tf_i s, tf_i k, tf_i a, tf_i b, tf_i c] G (tf_PI fun r G' => (¬ sok (G 42 1) s k a b c ∧ G' = tf_up G 42 0 1) ∨ (sok (G 42 1) s k a b c ∧ G 42 1 = 300 ∧ G' = tf_up G 42 0 2) ∨
    (sok (G 42 1) s k a b c ∧ G 42 1 < 300 ∧ r = G 42 1 ∧ G' = tf_up (tf_up (tf_up (tf_up (tf_up (tf_up (tf_up G 42 0 0) 43 (G 42 1) s) 44 (G 42 1) k) 45 (3 * G 42 1) a) 45 (3 * G 42 1 + 1) b) 45 (3 * G 42 1 + 2) c) 42 1 (G 42 1 + 1))) := by
  have bad : ∀ {G1 : tf_Sto}, ¬ sok (G 42 1) s k a b c → G1 = G → tf_AW l 83 none (tf_PI fun r G' => (¬ sok (G 42 1) s k a b c ∧ G' = tf_up G 42 0 1) ∨ (sok (G 42 1) s k a b c ∧ G 42 1 = 300 ∧ G' = tf_up G 42 0 2) ∨
      (sok (G 42 1) s k a b c ∧ G 42 1 < 300 ∧ r = G 42 1 ∧ G' = tf_up (tf_up (tf_up (tf_up (tf_up (tf_up (tf_up G 42 0 0) 43 (G 42 1) s) 44 (G 42 1) k) 45 (3 * G 42 1) a) 45 (3 * G 42 1 + 1) b) 45 (3 * G 42 1 + 2) c) 42 1 (G 42 1 + 1))) 59 [(0, tf_r 42), (1, tf_i s), (2, tf_i k), (3, tf_i a), (4, tf_i b), (5, tf_i c)] [] (none, false) G1 := by
    intro G1 hb e
    subst e
    refine vc_83_59 (vc_83_66 ⟨fun _ => ?_, fun _ => ?_⟩)
    · exact tf_ri sp_79_1 fun r G1 h1 => ⟨fun q => by omega, fun _ => tf_pi (Or.inl ⟨hb, h1.2⟩)⟩
    · exact tf_ri sp_79_1 fun r G1 h1 => ⟨fun q => by omega, fun _ => tf_pi (Or.inl ⟨hb, h1.2⟩)⟩
  have good : ∀ {G1 : tf_Sto}, sok (G 42 1) s k a b c → G1 = G → tf_AW l 83 none (tf_PI fun r G' => (¬ sok (G 42 1) s k a b c ∧ G' = tf_up G 42 0 1) ∨ (sok (G 42 1) s k a b c ∧ G 42 1 = 300 ∧ G' = tf_up G 42 0 2) ∨
      (sok (G 42 1) s k a b c ∧ G 42 1 < 300 ∧ r = G 42 1 ∧ G' = tf_up (tf_up (tf_up (tf_up (tf_up (tf_up (tf_up G 42 0 0) 43 (G 42 1) s) 44 (G 42 1) k) 45 (3 * G 42 1) a) 45 (3 * G 42 1 + 1) b) 45 (3 * G 42 1 + 2) c) 42 1 (G 42 1 + 1))) 66 [(0, tf_r 42), (1, tf_i s), (2, tf_i k), (3, tf_i a), (4, tf_i b), (5, tf_i c), (6, tf_i 0)] [] (none, false) G1 := by
    intro G1 hb e
    subst e
    refine vc_83_66 ⟨fun q => ?_, fun q => ?_⟩
    · refine tf_ri sp_79_0 fun r G1' h1 => ⟨fun _ => ?_, fun q => absurd h1.1 q⟩
      obtain ⟨_, e⟩ := h1
      subst e
      have e1 : tf_up G1 42 0 0 42 1 = G1 42 1 := by rw [tf_up_eq, if_neg (by decide)]
      rw [e1]
      exact ⟨⟨by omega, by omega⟩, ⟨by omega, by omega⟩, ⟨by omega, by omega⟩, ⟨by omega, by omega⟩, ⟨by omega, by omega⟩, ⟨by omega, by omega⟩, ⟨by omega, by omega⟩, ⟨by omega, by omega⟩, ⟨by omega, by omega⟩, ⟨by omega, by omega⟩, ⟨by omega, by omega⟩, ⟨by omega, by omega⟩, tf_pi (Or.inr (Or.inr ⟨hb, by omega, by omega, rfl⟩))⟩
    · exact tf_ri sp_79_2 fun r G1 h1 => ⟨fun q => by omega, fun _ => tf_pi (Or.inr (Or.inl ⟨hb, q, h1.2⟩))⟩
  refine vc_83 ⟨fun q => bad (fun g => by have := g.1; omega) rfl, fun q1 => ⟨fun q => bad (fun g => by have := g.1; omega) rfl, fun q2 => ⟨fun q => bad (fun g => by have := g.2.1; omega) rfl, fun q3 => ⟨fun q => bad (fun g => by have := g.2.1; omega) rfl, fun q4 => ?_⟩⟩⟩⟩
  have c31 : (0 < k → mf_dom (G 42 1) a) → tf_AW l 83 none (tf_PI fun r G' => (¬ sok (G 42 1) s k a b c ∧ G' = tf_up G 42 0 1) ∨ (sok (G 42 1) s k a b c ∧ G 42 1 = 300 ∧ G' = tf_up G 42 0 2) ∨
      (sok (G 42 1) s k a b c ∧ G 42 1 < 300 ∧ r = G 42 1 ∧ G' = tf_up (tf_up (tf_up (tf_up (tf_up (tf_up (tf_up G 42 0 0) 43 (G 42 1) s) 44 (G 42 1) k) 45 (3 * G 42 1) a) 45 (3 * G 42 1 + 1) b) 45 (3 * G 42 1 + 2) c) 42 1 (G 42 1 + 1))) 31 [(0, tf_r 42), (1, tf_i s), (2, tf_i k), (3, tf_i a), (4, tf_i b), (5, tf_i c)] [] (none, false) G := by
    intro ka
    have c45 : (1 < k → mf_dom (G 42 1) b) → tf_AW l 83 none (tf_PI fun r G' => (¬ sok (G 42 1) s k a b c ∧ G' = tf_up G 42 0 1) ∨ (sok (G 42 1) s k a b c ∧ G 42 1 = 300 ∧ G' = tf_up G 42 0 2) ∨
        (sok (G 42 1) s k a b c ∧ G 42 1 < 300 ∧ r = G 42 1 ∧ G' = tf_up (tf_up (tf_up (tf_up (tf_up (tf_up (tf_up G 42 0 0) 43 (G 42 1) s) 44 (G 42 1) k) 45 (3 * G 42 1) a) 45 (3 * G 42 1 + 1) b) 45 (3 * G 42 1 + 2) c) 42 1 (G 42 1 + 1))) 45 [(0, tf_r 42), (1, tf_i s), (2, tf_i k), (3, tf_i a), (4, tf_i b), (5, tf_i c)] [] (none, false) G := by
      intro kb
      refine vc_83_45 ⟨fun q => good ⟨⟨q1, q2⟩, ⟨q3, q4⟩, ka, kb, fun g => by omega⟩ rfl, fun q => tf_ri sp_80 fun r G1 h1 => ?_⟩
      refine ⟨fun g => ?_, fun g => ?_⟩
      · rcases h1.2 with h2 | h2
        · exact good ⟨⟨q1, q2⟩, ⟨q3, q4⟩, ka, kb, fun _ => h2.2⟩ h1.1
        · omega
      · rcases h1.2 with h2 | h2
        · omega
        · exact bad (fun g => h2.2 (g.2.2.2.2 q)) h1.1
    refine vc_83_31 ⟨fun q => c45 (fun g => by omega), fun q => tf_ri sp_80 fun r G1 h1 => ?_⟩
    refine ⟨fun g => ?_, fun g => ?_⟩
    · rcases h1.2 with h2 | h2
      · omega
      · exact bad (fun g => h2.2 (g.2.2.2.1 q)) h1.1
    · rcases h1.2 with h2 | h2
      · rw [h1.1]
        exact c45 (fun _ => h2.2)
      · omega
  refine ⟨fun q => c31 (fun g => by omega), fun q => tf_ri sp_80 fun r G1 h1 => ?_⟩
  refine ⟨fun g => ?_, fun g => ?_⟩
  · rcases h1.2 with h2 | h2
    · omega
    · exact bad (fun g => h2.2 (g.2.2.1 q)) h1.1
  · rcases h1.2 with h2 | h2
    · rw [h1.1]
      exact c31 (fun _ => h2.2)
    · omega
theorem mfr.q {G' : tf_Sto} (h : mfr G G') : mq G G' := h.g.q
abbrev Mhold (n : Int) (hd : Int → Int) (ch : Int → Int → Int) (E : List (Int × Int)) (a b r : Int) : Prop := (r = 1 ∧ mf_con n hd ch (E ++ [(a, b)])) ∨ (r = 0 ∧ ¬ mf_con n hd ch (E ++ [(a, b)]))
theorem sp_88 (h : MV n hd ch m G) {a b : Int} : tf_RUN l 88 [tf_r 42, tf_i a, tf_i b] G (tf_PI fun r G' => mq G G' ∧ (((mf_dom n a ∧ mf_dom n b) ∧ G' 42 0 = 0 ∧ Mhold n hd ch (mf_E (G 46) (G 47) m) a b r) ∨ (¬ (mf_dom n a ∧ mf_dom n b) ∧ G' 42 0 = 1))) := by
  have en := h.1.1
  refine vc_88 (tf_ri sp_81 fun r G1 h1 => ?_)
  rw [en] at h1
  refine ⟨fun q => ?_, fun q => ?_⟩
  · rcases h1 with ⟨_, ⟨ha, hb⟩, e⟩ | h1
    · subst e
      obtain ⟨k1, k2, k3, k4, k5, k6, k7⟩ := h.q (G' := tf_up G 42 0 0) mq.th
      rw [mq.th.eqs] at k6 k7
      refine tf_rv (sp_87 k1 k2 k3 k4 k5 (by rw [mq.th.eqs]; exact k6) (by rw [mq.th.eqs]; exact k7)) fun G2 h2 => ?_
      rw [mq.th.eqs] at h2
      refine tf_ri (sp_86 (k1.mf h2.1) k2 k3 k6 h2.2 k7 ha hb) fun r G3 h3 => ?_
      obtain ⟨f3, r3⟩ := h3
      refine ⟨by rcases r3 with r3 | r3 <;> omega, tf_pi ⟨mq.th.trans (h2.1.q.trans f3.q), Or.inl ⟨⟨ha, hb⟩, by rw [f3.2 0 (by decide), h2.1.2 0 (by decide), tf_up_at], ?_⟩⟩⟩
      rcases r3 with r3 | r3
      · exact Or.inl ⟨r3.1, r3.2.2⟩
      · exact Or.inr r3
    · omega
  · rcases h1 with h1 | ⟨_, h1, e⟩
    · omega
    · subst e
      exact ⟨Or.inl rfl, tf_pi ⟨mq.th, Or.inr ⟨h1, by rw [tf_up_at]⟩⟩⟩
theorem sp_89 (h : MV n hd ch m G) {a b : Int} : tf_RUN l 89 [tf_r 42, tf_i a, tf_i b] G (tf_PI fun r G' => ∃ G1, mq G G1 ∧ (((mf_dom n a ∧ mf_dom n b) ∧ G1 42 0 = 0 ∧ r = 1 ∧ mf_con n hd ch (mf_E (G 46) (G 47) m ++ [(a, b)]) ∧ G' = tf_up (tf_up (tf_up G1 46 m a) 47 m b) 42 5 (m + 1)) ∨ ((mf_dom n a ∧ mf_dom n b) ∧ G1 42 0 = 0 ∧ r = 0 ∧ ¬ mf_con n hd ch (mf_E (G 46) (G 47) m ++ [(a, b)]) ∧ G' = G1) ∨ (¬ (mf_dom n a ∧ mf_dom n b) ∧ G1 42 0 = 1 ∧ G' = G1))) := by
  have en := h.1.1
  have m5 := h.2.2.2.2.1
  refine vc_89 (tf_ri sp_81 fun r G1 h1 => ?_)
  rw [en] at h1
  refine ⟨fun q => ?_, fun q => ?_⟩
  · rcases h1 with ⟨_, ⟨ha, hb⟩, e⟩ | h1
    · subst e
      obtain ⟨k1, k2, k3, k4, k5, k6, k7⟩ := h.q (G' := tf_up G 42 0 0) mq.th
      rw [mq.th.eqs] at k6 k7
      refine tf_rv (sp_87 k1 k2 k3 k4 k5 (by rw [mq.th.eqs]; exact k6) (by rw [mq.th.eqs]; exact k7)) fun G2 h2 => ?_
      rw [mq.th.eqs] at h2
      refine tf_ri (sp_86 (k1.mf h2.1) k2 k3 k6 h2.2 k7 ha hb) fun r G3 h3 => ?_
      obtain ⟨f3, r3⟩ := h3
      have q3 : mq G G3 := mq.th.trans (h2.1.q.trans f3.q)
      have t3 : G3 42 0 = 0 := by rw [f3.2 0 (by decide), h2.1.2 0 (by decide), tf_up_at]
      have e5 : G3 42 5 = m := by rw [q3.2 5 (by decide) (by decide) (by decide) (by decide) (by decide)]; exact h.2.2.2.1
      rw [e5]
      refine ⟨fun g => ?_, fun g => ?_⟩
      · rcases r3 with r3 | r3
        · exact ⟨⟨by omega, by omega⟩, ⟨by omega, by omega⟩, ⟨by omega, by omega⟩, Or.inr rfl, tf_pi ⟨G3, q3, Or.inl ⟨⟨ha, hb⟩, t3, rfl, r3.2.2, rfl⟩⟩⟩
        · omega
      · rcases r3 with r3 | r3
        · omega
        · exact ⟨Or.inl rfl, tf_pi ⟨G3, q3, Or.inr (Or.inl ⟨⟨ha, hb⟩, t3, rfl, r3.2, rfl⟩)⟩⟩
    · omega
  · rcases h1 with h1 | ⟨_, h1, e⟩
    · omega
    · subst e
      exact ⟨Or.inl rfl, tf_pi ⟨_, mq.th, Or.inr (Or.inr ⟨h1, by rw [tf_up_at], rfl⟩)⟩⟩
theorem sp_90 (hl : 0 ≤ G 42 8 ∧ G 42 8 ≤ 20) : tf_RUN l 90 [tf_r 42] G (tf_PI fun r G' => (G 42 8 < 20 ∧ r = G 42 8 + 1 ∧ G' = tf_up (tf_up (tf_up (tf_up G 42 0 0) 48 (G 42 8) (G 42 1)) 49 (G 42 8) (G 42 5)) 42 8 (G 42 8 + 1)) ∨ (G 42 8 = 20 ∧ G' = tf_up G 42 0 1)) := by
  refine vc_90 ⟨fun q => ?_, fun q => ?_⟩
  · refine tf_ri sp_79_0 fun r G1 h1 => ⟨fun _ => ?_, fun q => absurd h1.1 q⟩
    obtain ⟨_, e⟩ := h1
    subst e
    have e1 : tf_up G 42 0 0 42 1 = G 42 1 := by rw [tf_up_eq, if_neg (by decide)]
    have e5 : tf_up G 42 0 0 42 5 = G 42 5 := by rw [tf_up_eq, if_neg (by decide)]
    have e8 : tf_up G 42 0 0 42 8 = G 42 8 := by rw [tf_up_eq, if_neg (by decide)]
    rw [e1, e5, e8]
    exact ⟨⟨by omega, by omega⟩, ⟨by omega, by omega⟩, ⟨by omega, by omega⟩, tf_pi (Or.inl ⟨by omega, by omega, rfl⟩)⟩
  · exact tf_ri sp_79_1 fun r G1 h1 => ⟨fun q => by omega, fun _ => tf_pi (Or.inr ⟨q, h1.2⟩)⟩
theorem sp_91 (hl : 0 ≤ G 42 8 ∧ G 42 8 ≤ 20) (hm : 0 ≤ G 42 5 ∧ G 42 5 ≤ 100000) (hj : 0 < G 42 8 → 0 ≤ G 49 (G 42 8 - 1) ∧ G 49 (G 42 8 - 1) ≤ 100000) : tf_RUN l 91 [tf_r 42] G (tf_PI fun r G' => (0 < G 42 8 ∧ r = G 42 5 - G 49 (G 42 8 - 1) ∧ G' = tf_up (tf_up (tf_up (tf_up G 42 0 0) 42 8 (G 42 8 - 1)) 42 1 (G 48 (G 42 8 - 1))) 42 5 (G 49 (G 42 8 - 1))) ∨ (G 42 8 = 0 ∧ G' = tf_up G 42 0 1)) := by
  refine vc_91 ⟨fun q => ?_, fun q => ?_⟩
  · refine tf_ri sp_79_0 fun r G1 h1 => ⟨fun _ => ?_, fun q => absurd h1.1 q⟩
    obtain ⟨_, e⟩ := h1
    subst e
    have e5 : tf_up G 42 0 0 42 5 = G 42 5 := by rw [tf_up_eq, if_neg (by decide)]
    have e8 : tf_up G 42 0 0 42 8 = G 42 8 := by rw [tf_up_eq, if_neg (by decide)]
    have e48 : tf_up G 42 0 0 48 = G 48 := tf_upo (by decide)
    have e49 : tf_up G 42 0 0 49 = G 49 := tf_upo (by decide)
    rw [e5, e8, e48, e49]
    have := hj (by omega)
    exact ⟨⟨by omega, by omega⟩, ⟨by omega, by omega⟩, ⟨by omega, by omega⟩, ⟨by omega, by omega⟩, ⟨by omega, by omega⟩, tf_pi (Or.inl ⟨by omega, rfl, rfl⟩)⟩
  · exact tf_ri sp_79_1 fun r G1 h1 => ⟨fun q => by omega, fun _ => tf_pi (Or.inr ⟨q, h1.2⟩)⟩
end
